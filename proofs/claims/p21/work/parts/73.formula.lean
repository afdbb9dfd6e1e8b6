/-! THE FORMULA: both read it alike -/
def tlv (l : Nat) : Nat := if l = 0 then 1 else if l = 1 then 2 else if l = 2 then 4 else if l = 3 then 5 else if l = 4 then 6 else 7
def Tv (l : Nat) : Nat := if l = 0 then 1 else if l = 1 then 2 else if l = 2 then 3 else if l = 3 then 5 else if l = 4 then 6 else 7
theorem topT_bin {s : Nat} {st : List Nat} (h : isBin s = true) : topT (s :: st) = tg s := if_neg (fun q => bin_no h (Or.inl q))
theorem dp_bin {s : Nat} {st : List Nat} (h : isBin s = true) : dp (s :: st) = dp st := by rw [dp_cons, if_neg (bin_no h)]; rfl
section FW
variable {F G d : Nat} {A1 B1 : St} {b : Nat → Nat} {n : Nat}
theorem parse_ok (hF : 100000 ≤ F) (hd : isSc d = true) (hdr : A1.2.2.2 = d) : ∀ k l A B t p st u, 6 * (8 - dp st) + 1 ≤ k + l → l ≤ 5 → OkF d b n A1 B1 A B t p → FS d A B st [] u 0 → topT st < tlv l → (3 ≤ l → ¬ (wd t 14 = true ∧ topT st < 4)) → ∃ A', fR_parse F G k l (nI (dp st)) A = some A' ∧ Out F G d b n A1 B1 (Tv l) st B (rem n t p) A' := by
  intro k
  induction k with
  | zero =>
    intro l A B t p st u hk hl ok fs ht hc
    have := fs.dU.2.1
    omega
  | succ k ih =>
    intro l A B t p st u hk hl ok fs ht hc
    have d7 := fs.dU.2.1
    have hr := ok.rm
    rcases (by omega : l = 0 ∨ l = 1 ∨ l = 2 ∨ l = 3 ∨ l = 4 ∨ l = 5) with rfl | rfl | rfl | rfl | rfl | rfl
    · have ht' : topT st < 1 := ht
      show ∃ A', fR_either F G (fR_parse F G k) (nI (dp st)) A = some A' ∧ Out F G d b n A1 B1 1 st B (rem n t p) A'
      unfold fR_either
      refine F_level (T := 1) hF hd hdr (by omega) ht' (fun rec i A h => either_0 rec i A h) (fun rec i A B t p h hs => either_1 rec i A B t p h hs) (fun rec i A B t p hi h h0 hT => either_2 rec i A B t p hi h h0 hT) ?_ (ih 1 A B t p st u (by omega) (by omega) ok fs (by show topT st < 2; omega) (fun q => by omega)) hr
      intro A B t p u s ok fs hs hb
      have := ih 1 A B t p (s :: st) u (by rw [dp_bin hb]; omega) (by omega) ok fs (by rw [topT_bin hb, hs]; decide) (fun q => by omega)
      rw [dp_bin hb] at this
      exact this
    · have ht' : topT st < 2 := ht
      show ∃ A', fR_both F G (fR_parse F G k) (nI (dp st)) A = some A' ∧ Out F G d b n A1 B1 2 st B (rem n t p) A'
      unfold fR_both
      refine F_level (T := 2) hF hd hdr (by omega) ht' (fun rec i A h => both_0 rec i A h) (fun rec i A B t p h hs => both_1 rec i A B t p h hs) (fun rec i A B t p hi h h0 hT => both_2 rec i A B t p hi h h0 hT) ?_ (ih 2 A B t p st u (by omega) (by omega) ok fs (by show topT st < 4; omega) (fun q => by omega)) hr
      intro A B t p u s ok fs hs hb
      have := ih 2 A B t p (s :: st) u (by rw [dp_bin hb]; omega) (by omega) ok fs (by rw [topT_bin hb, hs]; decide) (fun q => by omega)
      rw [dp_bin hb] at this
      exact this
    · have ht' : topT st < 4 := ht
      show ∃ A', fR_one F G (fR_parse F G k) (nI (dp st)) A = some A' ∧ Out F G d b n A1 B1 3 st B (rem n t p) A'
      refine F_one hF hd hdr ok fs ht' (fun q => ih 3 A B t p st u (by omega) (by omega) ok fs (by show topT st < 5; omega) (fun _ z => q z.1)) ?_ ?_
      · intro A B t p u s ok fs hs hb
        have := ih 3 A B t p (s :: st) u (by rw [dp_bin hb]; omega) (by omega) ok fs (by rw [topT_bin hb, hs]; decide) (fun _ q => by rw [topT_bin hb, hs] at q; exact absurd q.2 (by decide))
        rw [dp_bin hb] at this
        exact this
      · intro h7 A B t p ok fs
        have e : dp (21 :: st) = dp st + 1 := by rw [dp_cons, if_pos (Or.inr rfl)]
        have := ih 2 A B t p (21 :: st) u (by rw [e]; omega) (by omega) ok fs (by show (if 21 = 20 then 0 else tg 21) < 4; decide) (fun q => by omega)
        rw [e] at this
        exact this
    · have ht' : topT st < 5 := ht
      show ∃ A', fR_sum F G (fR_parse F G k) (nI (dp st)) A = some A' ∧ Out F G d b n A1 B1 5 st B (rem n t p) A'
      unfold fR_sum
      refine F_level (T := 5) hF hd hdr (by omega) ht' (fun rec i A h => sum_0 rec i A h) (fun rec i A B t p h hs => sum_1 rec i A B t p h hs) (fun rec i A B t p hi h h0 hT => sum_2 rec i A B t p hi h h0 hT) ?_ (ih 4 A B t p st u (by omega) (by omega) ok fs (by show topT st < 6; omega) (fun _ => hc (by omega))) hr
      intro A B t p u s ok fs hs hb
      have := ih 4 A B t p (s :: st) u (by rw [dp_bin hb]; omega) (by omega) ok fs (by rw [topT_bin hb, hs]; decide) (fun _ q => by rw [topT_bin hb, hs] at q; exact absurd q.2 (by decide))
      rw [dp_bin hb] at this
      exact this
    · have ht' : topT st < 6 := ht
      show ∃ A', fR_term F G (fR_parse F G k) (nI (dp st)) A = some A' ∧ Out F G d b n A1 B1 6 st B (rem n t p) A'
      unfold fR_term
      refine F_level (T := 6) hF hd hdr (by omega) ht' (fun rec i A h => term_0 rec i A h) (fun rec i A B t p h hs => term_1 rec i A B t p h hs) (fun rec i A B t p hi h h0 hT => term_2 rec i A B t p hi h h0 hT) ?_ (ih 5 A B t p st u (by omega) (by omega) ok fs (by show topT st < 7; omega) (fun _ => hc (by omega))) hr
      intro A B t p u s ok fs hs hb
      have := ih 5 A B t p (s :: st) u (by rw [dp_bin hb]; omega) (by omega) ok fs (by rw [topT_bin hb, hs]; decide) (fun _ q => by rw [topT_bin hb, hs] at q; exact absurd q.2 (by decide))
      rw [dp_bin hb] at this
      exact this
    · show ∃ A', fR_unit F G (fR_parse F G k) (nI (dp st)) A = some A' ∧ Out F G d b n A1 B1 7 st B (rem n t p) A'
      refine F_unit hF hd hdr ok fs (hc (by omega)) ?_
      intro h7 A B t p ok fs
      have e : dp (20 :: st) = dp st + 1 := by rw [dp_cons, if_pos (Or.inl rfl)]
      have := ih 0 A B t p (20 :: st) (u + 1) (by rw [e]; omega) (by omega) ok fs (by show (if 20 = 20 then 0 else tg 20) < 1; decide) (fun q => by omega)
      rw [e] at this
      exact this
/-- the line of a formula, behind its word -/
theorem F_line (hF : 100000 ≤ F) (hG : 60 ≤ G) (hd : isSc d = true) {A B : St} (hdr : A.2.2.2 = d) {t : Tk} {p : Nat} (h : Lx b n A B t p) (f0 : A.1 1 0 = 0) (g0 : B.1 78 2 = 0) (h9 : A.1 (d + 9) 0 = 0) (h91 : A.1 (d + 9) 1 = 0) (h20 : B.1 78 20 = 0) : ∃ A' B', fR_parse F G G 0 0 A = some A' ∧ lt (sI B 78 24 (1 : Int32)) (fun S3 => lt (sI S3 78 17 (0 : Int32)) fun S5 => lt (sI S5 78 19 (0 : Int32)) fun S7 => lt (sI S7 78 23 (0 : Int32)) fun S9 => lt (sI S9 78 22 (0 : Int32)) fun S11 => bd (fM_unit F G S11 ) fun S14 => fx2 (b_M_formula_35 F G  (fun S51 => j_M_formula_162 F G  S51 )) F (1 : Int32) S14) = some B' ∧ ((∃ t' p' u, OkF d b n A (sI (sI (sI (sI (sI B 78 24 1) 78 17 0) 78 19 0) 78 23 0) 78 22 0) A' B' t' p' ∧ FS d A' B' [] [] u 1 ∧ rem n t' p' < rem n t p) ∨ (BdF d A (sI (sI (sI (sI (sI B 78 24 1) 78 17 0) 78 19 0) 78 23 0) 78 22 0) A' B' ∧ SzC d A')) := by
  simp only [lt_eq]
  have hC20 : (sI (sI (sI (sI (sI B 78 24 1) 78 17 0) 78 19 0) 78 23 0) 78 22 0).1 78 20 = 0 := h20
  have hC22 : (sI (sI (sI (sI (sI B 78 24 1) 78 17 0) 78 19 0) 78 23 0) 78 22 0).1 78 22 = 0 := rfl
  have hC19 : (sI (sI (sI (sI (sI B 78 24 1) 78 17 0) 78 19 0) 78 23 0) 78 22 0).1 78 19 = 0 := rfl
  have hC23 : (sI (sI (sI (sI (sI B 78 24 1) 78 17 0) 78 19 0) 78 23 0) 78 22 0).1 78 23 = 0 := rfl
  have hC17 : (sI (sI (sI (sI (sI B 78 24 1) 78 17 0) 78 19 0) 78 23 0) 78 22 0).1 78 17 = 0 := rfl
  have hC2 : (sI (sI (sI (sI (sI B 78 24 1) 78 17 0) 78 19 0) 78 23 0) 78 22 0).1 78 2 = 0 := g0
  have hCL : Lx b n A (sI (sI (sI (sI (sI B 78 24 1) 78 17 0) 78 19 0) 78 23 0) 78 22 0) t p := by
    obtain ⟨k1, k2, k3, k4, k5, k6, k7, k8, k9, k10⟩ := h
    exact ⟨k1, k2, k3, k4, k5, k6, k7, k8, k9, k10⟩
  generalize sI (sI (sI (sI (sI B 78 24 1) 78 17 0) 78 19 0) 78 23 0) 78 22 0 = C at *
  have ok : OkF d b n A C A C t p := ⟨hCL, f0, hC2, rfl, rfl, Ag.rf, Ag.rf⟩
  have fs : FS d A C [] [] 0 0 := by
    refine ⟨by omega, h9, hC20, hC22, hC19, hC23, trivial, trivial, by show dp [] ≤ 7; decide, 0, hC17, h91, fun i hi => by omega, trivial, fun s hs => by omega, rfl, by decide, by decide⟩
  obtain ⟨A', q1, c, e, q2, q3⟩ := parse_ok hF hd hdr G 0 A C t p [] 0 (by show 6 * (8 - 0) + 1 ≤ G + 0; omega) (by omega) ok fs (by decide) (fun q => by omega)
  have hr := ok.rm
  have eU : bd (fM_unit F G C) (fun S14 => fx2 (b_M_formula_35 F G (fun S51 => j_M_formula_162 F G S51)) F (1 : Int32) S14) = mU F G F F C := rfl
  rw [eU]
  obtain ⟨g', hg'⟩ : ∃ g', F = g' + c := ⟨F - c, by omega⟩
  rcases q3 with ⟨B3, t3, p3, pend3, u3, r1, r2, r3, r4, r5, r6, r7⟩ | ⟨r0, B3, r1, r2, r3⟩
  · obtain ⟨f', hf'⟩ : ∃ f', F = (f' + 1 + 1) + e := ⟨F - 2 - e, by omega⟩
    have e1 : mU F G F F C = mL F G (f' + 1 + 1) B3 := by
      have := r1 g' (f' + 1 + 1)
      rw [← hg', ← hf'] at this
      exact this
    have n20 : ¬ 20 ∈ pend3 ++ [] := by
      intro q
      rw [List.append_nil] at q
      exact (r4 20 q).1 rfl
    rw [e1, L_end hF r2 r3 (fun _ => n20) (by
      rcases r5 with q | q | ⟨q, -, q2⟩
      · exact Or.inl q
      · exfalso
        have q' : tg (sgn t3) < 1 := q
        have := tg_le (sgn t3); omega
      · exact Or.inr ⟨q, q2⟩) f']
    obtain ⟨B4, c1, c2, c3⟩ := M_close1 (F := F) (G := G) (f := F) (z := 0) (by omega) (fun s r e => by cases e) pend3 F B3 r3 (fun x hx => ⟨(r4 x hx).1, by omega⟩) (by have := r3.len; simp at this; omega)
    have c1' : fM_close F G B3 0 = some B4 := c1
    unfold j_M_formula_162 j_M_formula_181
    rw [if_pos r2.2.2.1, M_hasBracket hF r3.2.2.2.2.2.2.1 r3.2.2.2.2.1 (by have := r3.len; omega) r3.mem, bd_some, show (if 20 ∈ pend3 ++ [] then (1 : Int32) else 0) = 0 from if_neg n20, if_pos rfl, if_pos r2.2.2.1, c1', bd_some]
    exact ⟨A', B4, q1, rfl, Or.inl ⟨t3, p3, u3, r2.agM c3, c2, r7⟩⟩
  · obtain ⟨f', hf'⟩ : ∃ f', F = f' + e := ⟨F - e, by omega⟩
    have e1 : mU F G F F C = some B3 := by
      have := r1 g' f'
      rw [← hg', ← hf'] at this
      exact this
    rw [e1]
    exact ⟨A', B3, q1, rfl, Or.inr ⟨r2, r3⟩⟩
end FW
