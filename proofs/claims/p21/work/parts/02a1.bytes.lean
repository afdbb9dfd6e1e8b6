/-! DECODING by bytes: a lemma an opcode -/
def By (c : ByteArray) (i b : Nat) : Prop := ∃ h : i < c.size, (c[i]'h).toNat = b
theorem u1_by {c : ByteArray} {p b : Nat} (h : By c p b) : (Reader.u1 : Decoder Nat) c p = .ok (b, p + 1) := by
  obtain ⟨h1, h2⟩ := h
  have e : (Reader.u1 : Decoder Nat) c p = (if h : p < c.size then (do set (p + 1); pure (c[p]'h).toNat : Decoder Nat) else throw (HasTruncated.truncated p)) c p := rfl
  rw [e, dif_pos h1, ← h2]
  rfl
theorem u2_by {c : ByteArray} {p a b : Nat} (h : By c p a) (k : By c (p + 1) b) : (Reader.u2 : Decoder Nat) c p = .ok (a * 256 + b, p + 2) := by
  show Except.bind ((Reader.u1 : Decoder Nat) c p) _ = _
  rw [u1_by h]
  show Except.bind ((Reader.u1 : Decoder Nat) c (p + 1)) _ = _
  rw [u1_by k]
  rfl
theorem s1_by {c : ByteArray} {p a : Nat} (h : By c p a) : (Reader.s1 : Decoder Int) c p = .ok (Reader.signed 8 a, p + 1) := by
  show Except.bind ((Reader.u1 : Decoder Nat) c p) _ = _
  rw [u1_by h]
  rfl
theorem s2_by {c : ByteArray} {p a b : Nat} (h : By c p a) (k : By c (p + 1) b) : (Reader.s2 : Decoder Int) c p = .ok (Reader.signed 16 (a * 256 + b), p + 2) := by
  show Except.bind ((Reader.u2 : Decoder Nat) c p) _ = _
  rw [u2_by h k]
  rfl
theorem dec_of {c : ByteArray} {p n : Nat} {i : Instr} (e : (Decoder.instr p) c p = .ok (i, p + n)) : decode c p = .ok (i, n) := by
  show Except.bind ((Decoder.instr p) c p) _ = _
  rw [e]
  show Except.ok (i, p + n - p) = _
  rw [Nat.add_sub_cancel_left]
def bq (c : ByteArray) (s : Nat) (L : List Nat) : Bool := decide (((c.data.toList.drop s).take L.length).map UInt8.toNat = L)
theorem by_get {c : ByteArray} {s : Nat} {L : List Nat} (h : bq c s L = true) {j b : Nat} (e : L[j]? = some b) : By c (s + j) b := by
  have h := of_decide_eq_true h
  have e2 : (((c.data.toList.drop s).take L.length).map UInt8.toNat)[j]? = some b := by rw [h]; exact e
  have hj : j < L.length := (List.getElem?_eq_some_iff.mp e).1
  rw [List.getElem?_map, List.getElem?_take_of_lt hj, List.getElem?_drop] at e2
  obtain ⟨x, x1, x2⟩ := Option.map_eq_some_iff.mp e2
  obtain ⟨y1, y2⟩ := List.getElem?_eq_some_iff.mp x1
  refine ⟨y1, ?_⟩
  rw [← x2, ← y2]
  rfl
theorem dl_1 {c : ByteArray} {p : Nat} (h : By c p 1) : decode c p = .ok (.aconst_null, 1) := dec_of (by show Except.bind ((Reader.u1 : Decoder Nat) c p) _ = _; rw [u1_by h]; rfl)
theorem dl_2 {c : ByteArray} {p : Nat} (h : By c p 2) : decode c p = .ok (.iconst (-1), 1) := dec_of (by show Except.bind ((Reader.u1 : Decoder Nat) c p) _ = _; rw [u1_by h]; rfl)
theorem dl_3 {c : ByteArray} {p : Nat} (h : By c p 3) : decode c p = .ok (.iconst 0, 1) := dec_of (by show Except.bind ((Reader.u1 : Decoder Nat) c p) _ = _; rw [u1_by h]; rfl)
theorem dl_4 {c : ByteArray} {p : Nat} (h : By c p 4) : decode c p = .ok (.iconst 1, 1) := dec_of (by show Except.bind ((Reader.u1 : Decoder Nat) c p) _ = _; rw [u1_by h]; rfl)
theorem dl_5 {c : ByteArray} {p : Nat} (h : By c p 5) : decode c p = .ok (.iconst 2, 1) := dec_of (by show Except.bind ((Reader.u1 : Decoder Nat) c p) _ = _; rw [u1_by h]; rfl)
theorem dl_6 {c : ByteArray} {p : Nat} (h : By c p 6) : decode c p = .ok (.iconst 3, 1) := dec_of (by show Except.bind ((Reader.u1 : Decoder Nat) c p) _ = _; rw [u1_by h]; rfl)
theorem dl_7 {c : ByteArray} {p : Nat} (h : By c p 7) : decode c p = .ok (.iconst 4, 1) := dec_of (by show Except.bind ((Reader.u1 : Decoder Nat) c p) _ = _; rw [u1_by h]; rfl)
theorem dl_8 {c : ByteArray} {p : Nat} (h : By c p 8) : decode c p = .ok (.iconst 5, 1) := dec_of (by show Except.bind ((Reader.u1 : Decoder Nat) c p) _ = _; rw [u1_by h]; rfl)
theorem dl_9 {c : ByteArray} {p : Nat} (h : By c p 9) : decode c p = .ok (.lconst 0, 1) := dec_of (by show Except.bind ((Reader.u1 : Decoder Nat) c p) _ = _; rw [u1_by h]; rfl)
theorem dl_10 {c : ByteArray} {p : Nat} (h : By c p 10) : decode c p = .ok (.lconst 1, 1) := dec_of (by show Except.bind ((Reader.u1 : Decoder Nat) c p) _ = _; rw [u1_by h]; rfl)
theorem dl_26 {c : ByteArray} {p : Nat} (h : By c p 26) : decode c p = .ok (.iload_n 0, 1) := dec_of (by show Except.bind ((Reader.u1 : Decoder Nat) c p) _ = _; rw [u1_by h]; rfl)
theorem dl_27 {c : ByteArray} {p : Nat} (h : By c p 27) : decode c p = .ok (.iload_n 1, 1) := dec_of (by show Except.bind ((Reader.u1 : Decoder Nat) c p) _ = _; rw [u1_by h]; rfl)
theorem dl_28 {c : ByteArray} {p : Nat} (h : By c p 28) : decode c p = .ok (.iload_n 2, 1) := dec_of (by show Except.bind ((Reader.u1 : Decoder Nat) c p) _ = _; rw [u1_by h]; rfl)
theorem dl_29 {c : ByteArray} {p : Nat} (h : By c p 29) : decode c p = .ok (.iload_n 3, 1) := dec_of (by show Except.bind ((Reader.u1 : Decoder Nat) c p) _ = _; rw [u1_by h]; rfl)
theorem dl_30 {c : ByteArray} {p : Nat} (h : By c p 30) : decode c p = .ok (.lload_n 0, 1) := dec_of (by show Except.bind ((Reader.u1 : Decoder Nat) c p) _ = _; rw [u1_by h]; rfl)
theorem dl_31 {c : ByteArray} {p : Nat} (h : By c p 31) : decode c p = .ok (.lload_n 1, 1) := dec_of (by show Except.bind ((Reader.u1 : Decoder Nat) c p) _ = _; rw [u1_by h]; rfl)
theorem dl_32 {c : ByteArray} {p : Nat} (h : By c p 32) : decode c p = .ok (.lload_n 2, 1) := dec_of (by show Except.bind ((Reader.u1 : Decoder Nat) c p) _ = _; rw [u1_by h]; rfl)
theorem dl_33 {c : ByteArray} {p : Nat} (h : By c p 33) : decode c p = .ok (.lload_n 3, 1) := dec_of (by show Except.bind ((Reader.u1 : Decoder Nat) c p) _ = _; rw [u1_by h]; rfl)
theorem dl_42 {c : ByteArray} {p : Nat} (h : By c p 42) : decode c p = .ok (.aload_n 0, 1) := dec_of (by show Except.bind ((Reader.u1 : Decoder Nat) c p) _ = _; rw [u1_by h]; rfl)
theorem dl_43 {c : ByteArray} {p : Nat} (h : By c p 43) : decode c p = .ok (.aload_n 1, 1) := dec_of (by show Except.bind ((Reader.u1 : Decoder Nat) c p) _ = _; rw [u1_by h]; rfl)
theorem dl_44 {c : ByteArray} {p : Nat} (h : By c p 44) : decode c p = .ok (.aload_n 2, 1) := dec_of (by show Except.bind ((Reader.u1 : Decoder Nat) c p) _ = _; rw [u1_by h]; rfl)
theorem dl_45 {c : ByteArray} {p : Nat} (h : By c p 45) : decode c p = .ok (.aload_n 3, 1) := dec_of (by show Except.bind ((Reader.u1 : Decoder Nat) c p) _ = _; rw [u1_by h]; rfl)
theorem dl_46 {c : ByteArray} {p : Nat} (h : By c p 46) : decode c p = .ok (.iaload, 1) := dec_of (by show Except.bind ((Reader.u1 : Decoder Nat) c p) _ = _; rw [u1_by h]; rfl)
theorem dl_47 {c : ByteArray} {p : Nat} (h : By c p 47) : decode c p = .ok (.laload, 1) := dec_of (by show Except.bind ((Reader.u1 : Decoder Nat) c p) _ = _; rw [u1_by h]; rfl)
theorem dl_50 {c : ByteArray} {p : Nat} (h : By c p 50) : decode c p = .ok (.aaload, 1) := dec_of (by show Except.bind ((Reader.u1 : Decoder Nat) c p) _ = _; rw [u1_by h]; rfl)
theorem dl_51 {c : ByteArray} {p : Nat} (h : By c p 51) : decode c p = .ok (.baload, 1) := dec_of (by show Except.bind ((Reader.u1 : Decoder Nat) c p) _ = _; rw [u1_by h]; rfl)
theorem dl_52 {c : ByteArray} {p : Nat} (h : By c p 52) : decode c p = .ok (.caload, 1) := dec_of (by show Except.bind ((Reader.u1 : Decoder Nat) c p) _ = _; rw [u1_by h]; rfl)
theorem dl_59 {c : ByteArray} {p : Nat} (h : By c p 59) : decode c p = .ok (.istore_n 0, 1) := dec_of (by show Except.bind ((Reader.u1 : Decoder Nat) c p) _ = _; rw [u1_by h]; rfl)
theorem dl_60 {c : ByteArray} {p : Nat} (h : By c p 60) : decode c p = .ok (.istore_n 1, 1) := dec_of (by show Except.bind ((Reader.u1 : Decoder Nat) c p) _ = _; rw [u1_by h]; rfl)
theorem dl_61 {c : ByteArray} {p : Nat} (h : By c p 61) : decode c p = .ok (.istore_n 2, 1) := dec_of (by show Except.bind ((Reader.u1 : Decoder Nat) c p) _ = _; rw [u1_by h]; rfl)
theorem dl_62 {c : ByteArray} {p : Nat} (h : By c p 62) : decode c p = .ok (.istore_n 3, 1) := dec_of (by show Except.bind ((Reader.u1 : Decoder Nat) c p) _ = _; rw [u1_by h]; rfl)
theorem dl_63 {c : ByteArray} {p : Nat} (h : By c p 63) : decode c p = .ok (.lstore_n 0, 1) := dec_of (by show Except.bind ((Reader.u1 : Decoder Nat) c p) _ = _; rw [u1_by h]; rfl)
theorem dl_64 {c : ByteArray} {p : Nat} (h : By c p 64) : decode c p = .ok (.lstore_n 1, 1) := dec_of (by show Except.bind ((Reader.u1 : Decoder Nat) c p) _ = _; rw [u1_by h]; rfl)
theorem dl_65 {c : ByteArray} {p : Nat} (h : By c p 65) : decode c p = .ok (.lstore_n 2, 1) := dec_of (by show Except.bind ((Reader.u1 : Decoder Nat) c p) _ = _; rw [u1_by h]; rfl)
theorem dl_66 {c : ByteArray} {p : Nat} (h : By c p 66) : decode c p = .ok (.lstore_n 3, 1) := dec_of (by show Except.bind ((Reader.u1 : Decoder Nat) c p) _ = _; rw [u1_by h]; rfl)
theorem dl_75 {c : ByteArray} {p : Nat} (h : By c p 75) : decode c p = .ok (.astore_n 0, 1) := dec_of (by show Except.bind ((Reader.u1 : Decoder Nat) c p) _ = _; rw [u1_by h]; rfl)
theorem dl_76 {c : ByteArray} {p : Nat} (h : By c p 76) : decode c p = .ok (.astore_n 1, 1) := dec_of (by show Except.bind ((Reader.u1 : Decoder Nat) c p) _ = _; rw [u1_by h]; rfl)
theorem dl_77 {c : ByteArray} {p : Nat} (h : By c p 77) : decode c p = .ok (.astore_n 2, 1) := dec_of (by show Except.bind ((Reader.u1 : Decoder Nat) c p) _ = _; rw [u1_by h]; rfl)
theorem dl_78 {c : ByteArray} {p : Nat} (h : By c p 78) : decode c p = .ok (.astore_n 3, 1) := dec_of (by show Except.bind ((Reader.u1 : Decoder Nat) c p) _ = _; rw [u1_by h]; rfl)
theorem dl_79 {c : ByteArray} {p : Nat} (h : By c p 79) : decode c p = .ok (.iastore, 1) := dec_of (by show Except.bind ((Reader.u1 : Decoder Nat) c p) _ = _; rw [u1_by h]; rfl)
theorem dl_80 {c : ByteArray} {p : Nat} (h : By c p 80) : decode c p = .ok (.lastore, 1) := dec_of (by show Except.bind ((Reader.u1 : Decoder Nat) c p) _ = _; rw [u1_by h]; rfl)
theorem dl_83 {c : ByteArray} {p : Nat} (h : By c p 83) : decode c p = .ok (.aastore, 1) := dec_of (by show Except.bind ((Reader.u1 : Decoder Nat) c p) _ = _; rw [u1_by h]; rfl)
theorem dl_84 {c : ByteArray} {p : Nat} (h : By c p 84) : decode c p = .ok (.bastore, 1) := dec_of (by show Except.bind ((Reader.u1 : Decoder Nat) c p) _ = _; rw [u1_by h]; rfl)
theorem dl_87 {c : ByteArray} {p : Nat} (h : By c p 87) : decode c p = .ok (.pop, 1) := dec_of (by show Except.bind ((Reader.u1 : Decoder Nat) c p) _ = _; rw [u1_by h]; rfl)
theorem dl_89 {c : ByteArray} {p : Nat} (h : By c p 89) : decode c p = .ok (.dup, 1) := dec_of (by show Except.bind ((Reader.u1 : Decoder Nat) c p) _ = _; rw [u1_by h]; rfl)
theorem dl_90 {c : ByteArray} {p : Nat} (h : By c p 90) : decode c p = .ok (.dup_x1, 1) := dec_of (by show Except.bind ((Reader.u1 : Decoder Nat) c p) _ = _; rw [u1_by h]; rfl)
theorem dl_92 {c : ByteArray} {p : Nat} (h : By c p 92) : decode c p = .ok (.dup2, 1) := dec_of (by show Except.bind ((Reader.u1 : Decoder Nat) c p) _ = _; rw [u1_by h]; rfl)
theorem dl_96 {c : ByteArray} {p : Nat} (h : By c p 96) : decode c p = .ok (.iadd, 1) := dec_of (by show Except.bind ((Reader.u1 : Decoder Nat) c p) _ = _; rw [u1_by h]; rfl)
theorem dl_97 {c : ByteArray} {p : Nat} (h : By c p 97) : decode c p = .ok (.ladd, 1) := dec_of (by show Except.bind ((Reader.u1 : Decoder Nat) c p) _ = _; rw [u1_by h]; rfl)
theorem dl_100 {c : ByteArray} {p : Nat} (h : By c p 100) : decode c p = .ok (.isub, 1) := dec_of (by show Except.bind ((Reader.u1 : Decoder Nat) c p) _ = _; rw [u1_by h]; rfl)
theorem dl_104 {c : ByteArray} {p : Nat} (h : By c p 104) : decode c p = .ok (.imul, 1) := dec_of (by show Except.bind ((Reader.u1 : Decoder Nat) c p) _ = _; rw [u1_by h]; rfl)
theorem dl_108 {c : ByteArray} {p : Nat} (h : By c p 108) : decode c p = .ok (.idiv, 1) := dec_of (by show Except.bind ((Reader.u1 : Decoder Nat) c p) _ = _; rw [u1_by h]; rfl)
theorem dl_112 {c : ByteArray} {p : Nat} (h : By c p 112) : decode c p = .ok (.irem, 1) := dec_of (by show Except.bind ((Reader.u1 : Decoder Nat) c p) _ = _; rw [u1_by h]; rfl)
theorem dl_116 {c : ByteArray} {p : Nat} (h : By c p 116) : decode c p = .ok (.ineg, 1) := dec_of (by show Except.bind ((Reader.u1 : Decoder Nat) c p) _ = _; rw [u1_by h]; rfl)
theorem dl_120 {c : ByteArray} {p : Nat} (h : By c p 120) : decode c p = .ok (.ishl, 1) := dec_of (by show Except.bind ((Reader.u1 : Decoder Nat) c p) _ = _; rw [u1_by h]; rfl)
theorem dl_121 {c : ByteArray} {p : Nat} (h : By c p 121) : decode c p = .ok (.lshl, 1) := dec_of (by show Except.bind ((Reader.u1 : Decoder Nat) c p) _ = _; rw [u1_by h]; rfl)
theorem dl_122 {c : ByteArray} {p : Nat} (h : By c p 122) : decode c p = .ok (.ishr, 1) := dec_of (by show Except.bind ((Reader.u1 : Decoder Nat) c p) _ = _; rw [u1_by h]; rfl)
theorem dl_124 {c : ByteArray} {p : Nat} (h : By c p 124) : decode c p = .ok (.iushr, 1) := dec_of (by show Except.bind ((Reader.u1 : Decoder Nat) c p) _ = _; rw [u1_by h]; rfl)
theorem dl_126 {c : ByteArray} {p : Nat} (h : By c p 126) : decode c p = .ok (.iand, 1) := dec_of (by show Except.bind ((Reader.u1 : Decoder Nat) c p) _ = _; rw [u1_by h]; rfl)
theorem dl_128 {c : ByteArray} {p : Nat} (h : By c p 128) : decode c p = .ok (.ior, 1) := dec_of (by show Except.bind ((Reader.u1 : Decoder Nat) c p) _ = _; rw [u1_by h]; rfl)
theorem dl_129 {c : ByteArray} {p : Nat} (h : By c p 129) : decode c p = .ok (.lor, 1) := dec_of (by show Except.bind ((Reader.u1 : Decoder Nat) c p) _ = _; rw [u1_by h]; rfl)
theorem dl_130 {c : ByteArray} {p : Nat} (h : By c p 130) : decode c p = .ok (.ixor, 1) := dec_of (by show Except.bind ((Reader.u1 : Decoder Nat) c p) _ = _; rw [u1_by h]; rfl)
theorem dl_133 {c : ByteArray} {p : Nat} (h : By c p 133) : decode c p = .ok (.i2l, 1) := dec_of (by show Except.bind ((Reader.u1 : Decoder Nat) c p) _ = _; rw [u1_by h]; rfl)
theorem dl_145 {c : ByteArray} {p : Nat} (h : By c p 145) : decode c p = .ok (.i2b, 1) := dec_of (by show Except.bind ((Reader.u1 : Decoder Nat) c p) _ = _; rw [u1_by h]; rfl)
theorem dl_146 {c : ByteArray} {p : Nat} (h : By c p 146) : decode c p = .ok (.i2c, 1) := dec_of (by show Except.bind ((Reader.u1 : Decoder Nat) c p) _ = _; rw [u1_by h]; rfl)
theorem dl_148 {c : ByteArray} {p : Nat} (h : By c p 148) : decode c p = .ok (.lcmp, 1) := dec_of (by show Except.bind ((Reader.u1 : Decoder Nat) c p) _ = _; rw [u1_by h]; rfl)
theorem dl_172 {c : ByteArray} {p : Nat} (h : By c p 172) : decode c p = .ok (.ireturn, 1) := dec_of (by show Except.bind ((Reader.u1 : Decoder Nat) c p) _ = _; rw [u1_by h]; rfl)
theorem dl_173 {c : ByteArray} {p : Nat} (h : By c p 173) : decode c p = .ok (.lreturn, 1) := dec_of (by show Except.bind ((Reader.u1 : Decoder Nat) c p) _ = _; rw [u1_by h]; rfl)
theorem dl_176 {c : ByteArray} {p : Nat} (h : By c p 176) : decode c p = .ok (.areturn, 1) := dec_of (by show Except.bind ((Reader.u1 : Decoder Nat) c p) _ = _; rw [u1_by h]; rfl)
theorem dl_177 {c : ByteArray} {p : Nat} (h : By c p 177) : decode c p = .ok (.return_, 1) := dec_of (by show Except.bind ((Reader.u1 : Decoder Nat) c p) _ = _; rw [u1_by h]; rfl)
theorem dl_190 {c : ByteArray} {p : Nat} (h : By c p 190) : decode c p = .ok (.arraylength, 1) := dec_of (by show Except.bind ((Reader.u1 : Decoder Nat) c p) _ = _; rw [u1_by h]; rfl)
theorem dl_18 {c : ByteArray} {p a : Nat} (h : By c p 18) (h1 : By c (p + 1) a) : decode c p = .ok (.ldc a, 2) := dec_of (by show Except.bind ((Reader.u1 : Decoder Nat) c p) _ = _; rw [u1_by h]; show Except.bind ((Reader.u1 : Decoder Nat) c (p + 1)) _ = _; rw [u1_by h1]; rfl)
theorem dl_21 {c : ByteArray} {p a : Nat} (h : By c p 21) (h1 : By c (p + 1) a) : decode c p = .ok (.iload a, 2) := dec_of (by show Except.bind ((Reader.u1 : Decoder Nat) c p) _ = _; rw [u1_by h]; show Except.bind ((Reader.u1 : Decoder Nat) c (p + 1)) _ = _; rw [u1_by h1]; rfl)
theorem dl_22 {c : ByteArray} {p a : Nat} (h : By c p 22) (h1 : By c (p + 1) a) : decode c p = .ok (.lload a, 2) := dec_of (by show Except.bind ((Reader.u1 : Decoder Nat) c p) _ = _; rw [u1_by h]; show Except.bind ((Reader.u1 : Decoder Nat) c (p + 1)) _ = _; rw [u1_by h1]; rfl)
theorem dl_25 {c : ByteArray} {p a : Nat} (h : By c p 25) (h1 : By c (p + 1) a) : decode c p = .ok (.aload a, 2) := dec_of (by show Except.bind ((Reader.u1 : Decoder Nat) c p) _ = _; rw [u1_by h]; show Except.bind ((Reader.u1 : Decoder Nat) c (p + 1)) _ = _; rw [u1_by h1]; rfl)
theorem dl_54 {c : ByteArray} {p a : Nat} (h : By c p 54) (h1 : By c (p + 1) a) : decode c p = .ok (.istore a, 2) := dec_of (by show Except.bind ((Reader.u1 : Decoder Nat) c p) _ = _; rw [u1_by h]; show Except.bind ((Reader.u1 : Decoder Nat) c (p + 1)) _ = _; rw [u1_by h1]; rfl)
theorem dl_55 {c : ByteArray} {p a : Nat} (h : By c p 55) (h1 : By c (p + 1) a) : decode c p = .ok (.lstore a, 2) := dec_of (by show Except.bind ((Reader.u1 : Decoder Nat) c p) _ = _; rw [u1_by h]; show Except.bind ((Reader.u1 : Decoder Nat) c (p + 1)) _ = _; rw [u1_by h1]; rfl)
theorem dl_58 {c : ByteArray} {p a : Nat} (h : By c p 58) (h1 : By c (p + 1) a) : decode c p = .ok (.astore a, 2) := dec_of (by show Except.bind ((Reader.u1 : Decoder Nat) c p) _ = _; rw [u1_by h]; show Except.bind ((Reader.u1 : Decoder Nat) c (p + 1)) _ = _; rw [u1_by h1]; rfl)
theorem dl_16 {c : ByteArray} {p a : Nat} (h : By c p 16) (h1 : By c (p + 1) a) : decode c p = .ok (.bipush (Reader.signed 8 a), 2) := dec_of (by show Except.bind ((Reader.u1 : Decoder Nat) c p) _ = _; rw [u1_by h]; show Except.bind ((Reader.s1 : Decoder Int) c (p + 1)) _ = _; rw [s1_by h1]; rfl)
theorem dl_19 {c : ByteArray} {p a b : Nat} (h : By c p 19) (h1 : By c (p + 1) a) (h2 : By c (p + 2) b) : decode c p = .ok (.ldc_w (a * 256 + b), 3) := dec_of (by show Except.bind ((Reader.u1 : Decoder Nat) c p) _ = _; rw [u1_by h]; show Except.bind ((Reader.u2 : Decoder Nat) c (p + 1)) _ = _; rw [u2_by h1 h2]; rfl)
theorem dl_20 {c : ByteArray} {p a b : Nat} (h : By c p 20) (h1 : By c (p + 1) a) (h2 : By c (p + 2) b) : decode c p = .ok (.ldc2_w (a * 256 + b), 3) := dec_of (by show Except.bind ((Reader.u1 : Decoder Nat) c p) _ = _; rw [u1_by h]; show Except.bind ((Reader.u2 : Decoder Nat) c (p + 1)) _ = _; rw [u2_by h1 h2]; rfl)
theorem dl_178 {c : ByteArray} {p a b : Nat} (h : By c p 178) (h1 : By c (p + 1) a) (h2 : By c (p + 2) b) : decode c p = .ok (.getstatic (a * 256 + b), 3) := dec_of (by show Except.bind ((Reader.u1 : Decoder Nat) c p) _ = _; rw [u1_by h]; show Except.bind ((Reader.u2 : Decoder Nat) c (p + 1)) _ = _; rw [u2_by h1 h2]; rfl)
theorem dl_179 {c : ByteArray} {p a b : Nat} (h : By c p 179) (h1 : By c (p + 1) a) (h2 : By c (p + 2) b) : decode c p = .ok (.putstatic (a * 256 + b), 3) := dec_of (by show Except.bind ((Reader.u1 : Decoder Nat) c p) _ = _; rw [u1_by h]; show Except.bind ((Reader.u2 : Decoder Nat) c (p + 1)) _ = _; rw [u2_by h1 h2]; rfl)
theorem dl_180 {c : ByteArray} {p a b : Nat} (h : By c p 180) (h1 : By c (p + 1) a) (h2 : By c (p + 2) b) : decode c p = .ok (.getfield (a * 256 + b), 3) := dec_of (by show Except.bind ((Reader.u1 : Decoder Nat) c p) _ = _; rw [u1_by h]; show Except.bind ((Reader.u2 : Decoder Nat) c (p + 1)) _ = _; rw [u2_by h1 h2]; rfl)
theorem dl_181 {c : ByteArray} {p a b : Nat} (h : By c p 181) (h1 : By c (p + 1) a) (h2 : By c (p + 2) b) : decode c p = .ok (.putfield (a * 256 + b), 3) := dec_of (by show Except.bind ((Reader.u1 : Decoder Nat) c p) _ = _; rw [u1_by h]; show Except.bind ((Reader.u2 : Decoder Nat) c (p + 1)) _ = _; rw [u2_by h1 h2]; rfl)
theorem dl_182 {c : ByteArray} {p a b : Nat} (h : By c p 182) (h1 : By c (p + 1) a) (h2 : By c (p + 2) b) : decode c p = .ok (.invokevirtual (a * 256 + b), 3) := dec_of (by show Except.bind ((Reader.u1 : Decoder Nat) c p) _ = _; rw [u1_by h]; show Except.bind ((Reader.u2 : Decoder Nat) c (p + 1)) _ = _; rw [u2_by h1 h2]; rfl)
theorem dl_183 {c : ByteArray} {p a b : Nat} (h : By c p 183) (h1 : By c (p + 1) a) (h2 : By c (p + 2) b) : decode c p = .ok (.invokespecial (a * 256 + b), 3) := dec_of (by show Except.bind ((Reader.u1 : Decoder Nat) c p) _ = _; rw [u1_by h]; show Except.bind ((Reader.u2 : Decoder Nat) c (p + 1)) _ = _; rw [u2_by h1 h2]; rfl)
theorem dl_184 {c : ByteArray} {p a b : Nat} (h : By c p 184) (h1 : By c (p + 1) a) (h2 : By c (p + 2) b) : decode c p = .ok (.invokestatic (a * 256 + b), 3) := dec_of (by show Except.bind ((Reader.u1 : Decoder Nat) c p) _ = _; rw [u1_by h]; show Except.bind ((Reader.u2 : Decoder Nat) c (p + 1)) _ = _; rw [u2_by h1 h2]; rfl)
theorem dl_187 {c : ByteArray} {p a b : Nat} (h : By c p 187) (h1 : By c (p + 1) a) (h2 : By c (p + 2) b) : decode c p = .ok (.new (a * 256 + b), 3) := dec_of (by show Except.bind ((Reader.u1 : Decoder Nat) c p) _ = _; rw [u1_by h]; show Except.bind ((Reader.u2 : Decoder Nat) c (p + 1)) _ = _; rw [u2_by h1 h2]; rfl)
theorem dl_189 {c : ByteArray} {p a b : Nat} (h : By c p 189) (h1 : By c (p + 1) a) (h2 : By c (p + 2) b) : decode c p = .ok (.anewarray (a * 256 + b), 3) := dec_of (by show Except.bind ((Reader.u1 : Decoder Nat) c p) _ = _; rw [u1_by h]; show Except.bind ((Reader.u2 : Decoder Nat) c (p + 1)) _ = _; rw [u2_by h1 h2]; rfl)
theorem dl_192 {c : ByteArray} {p a b : Nat} (h : By c p 192) (h1 : By c (p + 1) a) (h2 : By c (p + 2) b) : decode c p = .ok (.checkcast (a * 256 + b), 3) := dec_of (by show Except.bind ((Reader.u1 : Decoder Nat) c p) _ = _; rw [u1_by h]; show Except.bind ((Reader.u2 : Decoder Nat) c (p + 1)) _ = _; rw [u2_by h1 h2]; rfl)
theorem dl_193 {c : ByteArray} {p a b : Nat} (h : By c p 193) (h1 : By c (p + 1) a) (h2 : By c (p + 2) b) : decode c p = .ok (.instanceof (a * 256 + b), 3) := dec_of (by show Except.bind ((Reader.u1 : Decoder Nat) c p) _ = _; rw [u1_by h]; show Except.bind ((Reader.u2 : Decoder Nat) c (p + 1)) _ = _; rw [u2_by h1 h2]; rfl)
theorem dl_17 {c : ByteArray} {p a b : Nat} (h : By c p 17) (h1 : By c (p + 1) a) (h2 : By c (p + 2) b) : decode c p = .ok (.sipush (Reader.signed 16 (a * 256 + b)), 3) := dec_of (by show Except.bind ((Reader.u1 : Decoder Nat) c p) _ = _; rw [u1_by h]; show Except.bind ((Reader.s2 : Decoder Int) c (p + 1)) _ = _; rw [s2_by h1 h2]; rfl)
theorem dl_167 {c : ByteArray} {p a b : Nat} (h : By c p 167) (h1 : By c (p + 1) a) (h2 : By c (p + 2) b) : decode c p = .ok (.goto (Reader.signed 16 (a * 256 + b)), 3) := dec_of (by show Except.bind ((Reader.u1 : Decoder Nat) c p) _ = _; rw [u1_by h]; show Except.bind ((Reader.s2 : Decoder Int) c (p + 1)) _ = _; rw [s2_by h1 h2]; rfl)
theorem dl_153 {c : ByteArray} {p a b : Nat} (h : By c p 153) (h1 : By c (p + 1) a) (h2 : By c (p + 2) b) : decode c p = .ok (.ifCond .eq (Reader.signed 16 (a * 256 + b)), 3) := dec_of (by show Except.bind ((Reader.u1 : Decoder Nat) c p) _ = _; rw [u1_by h]; show Except.bind ((Reader.s2 : Decoder Int) c (p + 1)) _ = _; rw [s2_by h1 h2]; rfl)
theorem dl_159 {c : ByteArray} {p a b : Nat} (h : By c p 159) (h1 : By c (p + 1) a) (h2 : By c (p + 2) b) : decode c p = .ok (.if_icmp .eq (Reader.signed 16 (a * 256 + b)), 3) := dec_of (by show Except.bind ((Reader.u1 : Decoder Nat) c p) _ = _; rw [u1_by h]; show Except.bind ((Reader.s2 : Decoder Int) c (p + 1)) _ = _; rw [s2_by h1 h2]; rfl)
theorem dl_154 {c : ByteArray} {p a b : Nat} (h : By c p 154) (h1 : By c (p + 1) a) (h2 : By c (p + 2) b) : decode c p = .ok (.ifCond .ne (Reader.signed 16 (a * 256 + b)), 3) := dec_of (by show Except.bind ((Reader.u1 : Decoder Nat) c p) _ = _; rw [u1_by h]; show Except.bind ((Reader.s2 : Decoder Int) c (p + 1)) _ = _; rw [s2_by h1 h2]; rfl)
theorem dl_160 {c : ByteArray} {p a b : Nat} (h : By c p 160) (h1 : By c (p + 1) a) (h2 : By c (p + 2) b) : decode c p = .ok (.if_icmp .ne (Reader.signed 16 (a * 256 + b)), 3) := dec_of (by show Except.bind ((Reader.u1 : Decoder Nat) c p) _ = _; rw [u1_by h]; show Except.bind ((Reader.s2 : Decoder Int) c (p + 1)) _ = _; rw [s2_by h1 h2]; rfl)
theorem dl_155 {c : ByteArray} {p a b : Nat} (h : By c p 155) (h1 : By c (p + 1) a) (h2 : By c (p + 2) b) : decode c p = .ok (.ifCond .lt (Reader.signed 16 (a * 256 + b)), 3) := dec_of (by show Except.bind ((Reader.u1 : Decoder Nat) c p) _ = _; rw [u1_by h]; show Except.bind ((Reader.s2 : Decoder Int) c (p + 1)) _ = _; rw [s2_by h1 h2]; rfl)
theorem dl_161 {c : ByteArray} {p a b : Nat} (h : By c p 161) (h1 : By c (p + 1) a) (h2 : By c (p + 2) b) : decode c p = .ok (.if_icmp .lt (Reader.signed 16 (a * 256 + b)), 3) := dec_of (by show Except.bind ((Reader.u1 : Decoder Nat) c p) _ = _; rw [u1_by h]; show Except.bind ((Reader.s2 : Decoder Int) c (p + 1)) _ = _; rw [s2_by h1 h2]; rfl)
theorem dl_156 {c : ByteArray} {p a b : Nat} (h : By c p 156) (h1 : By c (p + 1) a) (h2 : By c (p + 2) b) : decode c p = .ok (.ifCond .ge (Reader.signed 16 (a * 256 + b)), 3) := dec_of (by show Except.bind ((Reader.u1 : Decoder Nat) c p) _ = _; rw [u1_by h]; show Except.bind ((Reader.s2 : Decoder Int) c (p + 1)) _ = _; rw [s2_by h1 h2]; rfl)
theorem dl_162 {c : ByteArray} {p a b : Nat} (h : By c p 162) (h1 : By c (p + 1) a) (h2 : By c (p + 2) b) : decode c p = .ok (.if_icmp .ge (Reader.signed 16 (a * 256 + b)), 3) := dec_of (by show Except.bind ((Reader.u1 : Decoder Nat) c p) _ = _; rw [u1_by h]; show Except.bind ((Reader.s2 : Decoder Int) c (p + 1)) _ = _; rw [s2_by h1 h2]; rfl)
theorem dl_157 {c : ByteArray} {p a b : Nat} (h : By c p 157) (h1 : By c (p + 1) a) (h2 : By c (p + 2) b) : decode c p = .ok (.ifCond .gt (Reader.signed 16 (a * 256 + b)), 3) := dec_of (by show Except.bind ((Reader.u1 : Decoder Nat) c p) _ = _; rw [u1_by h]; show Except.bind ((Reader.s2 : Decoder Int) c (p + 1)) _ = _; rw [s2_by h1 h2]; rfl)
theorem dl_163 {c : ByteArray} {p a b : Nat} (h : By c p 163) (h1 : By c (p + 1) a) (h2 : By c (p + 2) b) : decode c p = .ok (.if_icmp .gt (Reader.signed 16 (a * 256 + b)), 3) := dec_of (by show Except.bind ((Reader.u1 : Decoder Nat) c p) _ = _; rw [u1_by h]; show Except.bind ((Reader.s2 : Decoder Int) c (p + 1)) _ = _; rw [s2_by h1 h2]; rfl)
theorem dl_158 {c : ByteArray} {p a b : Nat} (h : By c p 158) (h1 : By c (p + 1) a) (h2 : By c (p + 2) b) : decode c p = .ok (.ifCond .le (Reader.signed 16 (a * 256 + b)), 3) := dec_of (by show Except.bind ((Reader.u1 : Decoder Nat) c p) _ = _; rw [u1_by h]; show Except.bind ((Reader.s2 : Decoder Int) c (p + 1)) _ = _; rw [s2_by h1 h2]; rfl)
theorem dl_164 {c : ByteArray} {p a b : Nat} (h : By c p 164) (h1 : By c (p + 1) a) (h2 : By c (p + 2) b) : decode c p = .ok (.if_icmp .le (Reader.signed 16 (a * 256 + b)), 3) := dec_of (by show Except.bind ((Reader.u1 : Decoder Nat) c p) _ = _; rw [u1_by h]; show Except.bind ((Reader.s2 : Decoder Int) c (p + 1)) _ = _; rw [s2_by h1 h2]; rfl)
theorem dl_132 {c : ByteArray} {p a b : Nat} (h : By c p 132) (h1 : By c (p + 1) a) (h2 : By c (p + 2) b) : decode c p = .ok (.iinc a (Reader.signed 8 b), 3) := dec_of (by show Except.bind ((Reader.u1 : Decoder Nat) c p) _ = _; rw [u1_by h]; show Except.bind ((Reader.u1 : Decoder Nat) c (p + 1)) _ = _; rw [u1_by h1]; show Except.bind ((Reader.s1 : Decoder Int) c (p + 1 + 1)) _ = _; rw [s1_by h2]; rfl)
theorem dl_188_4 {c : ByteArray} {p : Nat} (h : By c p 188) (h1 : By c (p + 1) 4) : decode c p = .ok (.newarray .boolean, 2) := dec_of (by show Except.bind ((Reader.u1 : Decoder Nat) c p) _ = _; rw [u1_by h]; show Except.bind ((Reader.u1 : Decoder Nat) c (p + 1)) _ = _; rw [u1_by h1]; rfl)
theorem dl_188_8 {c : ByteArray} {p : Nat} (h : By c p 188) (h1 : By c (p + 1) 8) : decode c p = .ok (.newarray .byte, 2) := dec_of (by show Except.bind ((Reader.u1 : Decoder Nat) c p) _ = _; rw [u1_by h]; show Except.bind ((Reader.u1 : Decoder Nat) c (p + 1)) _ = _; rw [u1_by h1]; rfl)
theorem dl_188_10 {c : ByteArray} {p : Nat} (h : By c p 188) (h1 : By c (p + 1) 10) : decode c p = .ok (.newarray .int, 2) := dec_of (by show Except.bind ((Reader.u1 : Decoder Nat) c p) _ = _; rw [u1_by h]; show Except.bind ((Reader.u1 : Decoder Nat) c (p + 1)) _ = _; rw [u1_by h1]; rfl)
theorem dl_188_11 {c : ByteArray} {p : Nat} (h : By c p 188) (h1 : By c (p + 1) 11) : decode c p = .ok (.newarray .long, 2) := dec_of (by show Except.bind ((Reader.u1 : Decoder Nat) c p) _ = _; rw [u1_by h]; show Except.bind ((Reader.u1 : Decoder Nat) c (p + 1)) _ = _; rw [u1_by h1]; rfl)
