theorem dz_u1 (C : ByteArray) (i : Nat) : (Reader.u1 : Reader DecodeError Nat) C i = (if h : i < C.size then .ok (C[i].toNat, i + 1) else .error (HasTruncated.truncated i)) := by
  show (do if h : i < C.size then do set (i + 1); Pure.pure C[i].toNat else MonadExcept.throw (HasTruncated.truncated i) : Reader DecodeError Nat) C i = _
  by_cases hi : i < C.size
  · rw [dif_pos hi, dif_pos hi]; rfl
  · rw [dif_neg hi, dif_neg hi]; rfl
theorem dz_b {C : ByteArray} {i : Nat} {b : UInt8} {r : List UInt8} (h : C.data.toList.drop i = b :: r) : (Reader.u1 : Reader DecodeError Nat) C i = .ok (b.toNat, i + 1) ∧ C.data.toList.drop (i + 1) = r := by
  have hi : i < C.data.toList.length := by
    rcases Nat.lt_or_ge i C.data.toList.length with h1 | h1
    · exact h1
    · rw [List.drop_eq_nil_of_le h1] at h; cases h
  have hs : i < C.size := by simpa using hi
  rw [List.drop_eq_getElem_cons hi] at h
  obtain ⟨h1, h2⟩ := List.cons.inj h
  refine ⟨?_, h2⟩
  rw [dz_u1, dif_pos hs]
  have h3 : C[i] = b := h1
  rw [h3]
theorem dz_bind {α β : Type} {r : Reader DecodeError α} (f : α → Reader DecodeError β) {C : ByteArray} {p s : Nat} {a : α} (h : r C p = .ok (a, s)) : (r >>= f) C p = f a C s := by
  show (do let (a, s) ← r C p; f a C s : Except DecodeError (β × Nat)) = _
  rw [h]; rfl
theorem dz_dec {C : ByteArray} {p n : Nat} {i : Instr} (h : Decoder.instr p C p = .ok (i, p + n)) : decode C p = .ok (i, n) := by
  have e : decode C p = (match Decoder.instr p C p with | .error x => .error x | .ok (j, s) => .ok (j, s - p)) := by
    show (do let (j, s) ← Decoder.instr p C p; Pure.pure (j, s - p) : Except DecodeError (Instr × Nat)) = _
    cases Decoder.instr p C p <;> rfl
  rw [e, h]
  show Except.ok (i, p + n - p) = _
  rw [Nat.add_sub_cancel_left]
def dz0 (l : List UInt8) (n k : Nat) : Bool := match l with | b :: _ => Nat.beq n 1 && Nat.beq b.toNat k | _ => false
def dzu1 (l : List UInt8) (n k x : Nat) : Bool := match l with | b :: c :: _ => Nat.beq n 2 && (Nat.beq b.toNat k && Nat.beq c.toNat x) | _ => false
def dzu2 (l : List UInt8) (n k x : Nat) : Bool := match l with | b :: c :: d :: _ => Nat.beq n 3 && (Nat.beq b.toNat k && Nat.beq (c.toNat * 256 + d.toNat) x) | _ => false
def dzs1 (l : List UInt8) (n k : Nat) (v : Int) : Bool := match l with | b :: c :: _ => Nat.beq n 2 && (Nat.beq b.toNat k && decide (Reader.signed 8 c.toNat = v)) | _ => false
def dzs2 (l : List UInt8) (n k : Nat) (v : Int) : Bool := match l with | b :: c :: d :: _ => Nat.beq n 3 && (Nat.beq b.toNat k && decide (Reader.signed 16 (c.toNat * 256 + d.toNat) = v)) | _ => false
def dzii (l : List UInt8) (n k x : Nat) (v : Int) : Bool := match l with | b :: c :: d :: _ => Nat.beq n 3 && (Nat.beq b.toNat k && (Nat.beq c.toNat x && decide (Reader.signed 8 d.toNat = v))) | _ => false
theorem dz0_ok {C : ByteArray} {p n : Nat} {F : Nat → Reader DecodeError Instr} (hI : Decoder.instr p = (Reader.u1 >>= F)) (k : Nat) {i : Instr} (h : dz0 (C.data.toList.drop p) n k = true) (hF : F k = Pure.pure i) : decode C p = .ok (i, n) := by
  rcases hl : C.data.toList.drop p with _ | ⟨b, l1⟩
  · rw [hl] at h; exact absurd (show false = true from h) Bool.false_ne_true
  rw [hl] at h
  have h : (Nat.beq n 1 && Nat.beq b.toNat k) = true := h
  rw [Bool.and_eq_true] at h
  have e1 : n = 1 := Nat.eq_of_beq_eq_true h.1
  have e2 : b.toNat = k := Nat.eq_of_beq_eq_true h.2
  subst e1
  apply dz_dec
  rw [hI]
  obtain ⟨u0, d0⟩ := dz_b hl
  rw [dz_bind F u0, e2, hF]
  rfl
theorem dzu1_ok {C : ByteArray} {p n : Nat} {F : Nat → Reader DecodeError Instr} (hI : Decoder.instr p = (Reader.u1 >>= F)) (k : Nat) {x : Nat} {g : Nat → Instr} (h : dzu1 (C.data.toList.drop p) n k x = true) (hF : F k = (Reader.u1 >>= fun y => Pure.pure (g y))) : decode C p = .ok (g x, n) := by
  rcases hl : C.data.toList.drop p with _ | ⟨b, l1⟩
  · rw [hl] at h; exact absurd (show false = true from h) Bool.false_ne_true
  rcases l1 with _ | ⟨c, l2⟩
  · rw [hl] at h; exact absurd (show false = true from h) Bool.false_ne_true
  rw [hl] at h
  have h : (Nat.beq n 2 && (Nat.beq b.toNat k && Nat.beq c.toNat x)) = true := h
  rw [Bool.and_eq_true, Bool.and_eq_true] at h
  have e1 : n = 2 := Nat.eq_of_beq_eq_true h.1
  have e2 : b.toNat = k := Nat.eq_of_beq_eq_true h.2.1
  have e3 : c.toNat = x := Nat.eq_of_beq_eq_true h.2.2
  subst e1
  apply dz_dec
  rw [hI]
  obtain ⟨u0, d0⟩ := dz_b hl
  rw [dz_bind F u0, e2, hF]
  obtain ⟨u1, d1⟩ := dz_b d0
  rw [dz_bind _ u1, e3]
  rfl
theorem dz_u2 {C : ByteArray} {i : Nat} {b c : UInt8} {r : List UInt8} (h : C.data.toList.drop i = b :: c :: r) : (Reader.u2 : Reader DecodeError Nat) C i = .ok (b.toNat * 256 + c.toNat, i + 1 + 1) := by
  obtain ⟨u1, d1⟩ := dz_b h
  obtain ⟨u2, d2⟩ := dz_b d1
  show (Reader.u1 >>= fun hi => Reader.u1 >>= fun lo => Pure.pure (hi * 256 + lo) : Reader DecodeError Nat) C i = _
  rw [dz_bind _ u1, dz_bind _ u2]; rfl
theorem dz_map {α β : Type} {r : Reader DecodeError α} (f : α → β) {C : ByteArray} {p s : Nat} {a : α} (h : r C p = .ok (a, s)) : (f <$> r) C p = .ok (f a, s) := by
  show (do let (a, s) ← r C p; .ok (f a, s) : Except DecodeError (β × Nat)) = _
  rw [h]; rfl
theorem dzu2_ok {C : ByteArray} {p n : Nat} {F : Nat → Reader DecodeError Instr} (hI : Decoder.instr p = (Reader.u1 >>= F)) (k : Nat) {x : Nat} {g : Nat → Instr} (h : dzu2 (C.data.toList.drop p) n k x = true) (hF : F k = (Reader.u2 >>= fun y => Pure.pure (g y))) : decode C p = .ok (g x, n) := by
  rcases hl : C.data.toList.drop p with _ | ⟨b, l1⟩
  · rw [hl] at h; exact absurd (show false = true from h) Bool.false_ne_true
  rcases l1 with _ | ⟨c, l2⟩
  · rw [hl] at h; exact absurd (show false = true from h) Bool.false_ne_true
  rcases l2 with _ | ⟨d, l3⟩
  · rw [hl] at h; exact absurd (show false = true from h) Bool.false_ne_true
  rw [hl] at h
  have h : (Nat.beq n 3 && (Nat.beq b.toNat k && Nat.beq (c.toNat * 256 + d.toNat) x)) = true := h
  rw [Bool.and_eq_true, Bool.and_eq_true] at h
  have e1 : n = 3 := Nat.eq_of_beq_eq_true h.1
  have e2 : b.toNat = k := Nat.eq_of_beq_eq_true h.2.1
  have e3 : c.toNat * 256 + d.toNat = x := Nat.eq_of_beq_eq_true h.2.2
  subst e1
  apply dz_dec
  rw [hI]
  obtain ⟨u0, d0⟩ := dz_b hl
  rw [dz_bind F u0, e2, hF]
  rw [dz_bind _ (dz_u2 d0), e3]
  rfl
theorem dzs1_ok {C : ByteArray} {p n : Nat} {F : Nat → Reader DecodeError Instr} (hI : Decoder.instr p = (Reader.u1 >>= F)) (k : Nat) {v : Int} {g : Int → Instr} (h : dzs1 (C.data.toList.drop p) n k v = true) (hF : F k = (Reader.s1 >>= fun y => Pure.pure (g y))) : decode C p = .ok (g v, n) := by
  rcases hl : C.data.toList.drop p with _ | ⟨b, l1⟩
  · rw [hl] at h; exact absurd (show false = true from h) Bool.false_ne_true
  rcases l1 with _ | ⟨c, l2⟩
  · rw [hl] at h; exact absurd (show false = true from h) Bool.false_ne_true
  rw [hl] at h
  have h : (Nat.beq n 2 && (Nat.beq b.toNat k && decide (Reader.signed 8 c.toNat = v))) = true := h
  rw [Bool.and_eq_true, Bool.and_eq_true, decide_eq_true_eq] at h
  have e1 : n = 2 := Nat.eq_of_beq_eq_true h.1
  have e2 : b.toNat = k := Nat.eq_of_beq_eq_true h.2.1
  have e3 := h.2.2
  subst e1
  apply dz_dec
  rw [hI]
  obtain ⟨u0, d0⟩ := dz_b hl
  rw [dz_bind F u0, e2, hF]
  obtain ⟨u1, d1⟩ := dz_b d0
  have u2 : (Reader.s1 : Reader DecodeError Int) C (p + 1) = _ := dz_map _ u1
  rw [dz_bind _ u2, e3]
  rfl
theorem dzs2_ok {C : ByteArray} {p n : Nat} {F : Nat → Reader DecodeError Instr} (hI : Decoder.instr p = (Reader.u1 >>= F)) (k : Nat) {v : Int} {g : Int → Instr} (h : dzs2 (C.data.toList.drop p) n k v = true) (hF : F k = (Reader.s2 >>= fun y => Pure.pure (g y))) : decode C p = .ok (g v, n) := by
  rcases hl : C.data.toList.drop p with _ | ⟨b, l1⟩
  · rw [hl] at h; exact absurd (show false = true from h) Bool.false_ne_true
  rcases l1 with _ | ⟨c, l2⟩
  · rw [hl] at h; exact absurd (show false = true from h) Bool.false_ne_true
  rcases l2 with _ | ⟨d, l3⟩
  · rw [hl] at h; exact absurd (show false = true from h) Bool.false_ne_true
  rw [hl] at h
  have h : (Nat.beq n 3 && (Nat.beq b.toNat k && decide (Reader.signed 16 (c.toNat * 256 + d.toNat) = v))) = true := h
  rw [Bool.and_eq_true, Bool.and_eq_true, decide_eq_true_eq] at h
  have e1 : n = 3 := Nat.eq_of_beq_eq_true h.1
  have e2 : b.toNat = k := Nat.eq_of_beq_eq_true h.2.1
  have e3 := h.2.2
  subst e1
  apply dz_dec
  rw [hI]
  obtain ⟨u0, d0⟩ := dz_b hl
  rw [dz_bind F u0, e2, hF]
  have u2 : (Reader.s2 : Reader DecodeError Int) C (p + 1) = _ := dz_map _ (dz_u2 d0)
  rw [dz_bind _ u2, e3]
  rfl
theorem dzii_ok {C : ByteArray} {p n : Nat} {F : Nat → Reader DecodeError Instr} (hI : Decoder.instr p = (Reader.u1 >>= F)) (k : Nat) {x : Nat} {v : Int} {g : Nat → Int → Instr} (h : dzii (C.data.toList.drop p) n k x v = true) (hF : F k = (Reader.u1 >>= fun y => Reader.s1 >>= fun z => Pure.pure (g y z))) : decode C p = .ok (g x v, n) := by
  rcases hl : C.data.toList.drop p with _ | ⟨b, l1⟩
  · rw [hl] at h; exact absurd (show false = true from h) Bool.false_ne_true
  rcases l1 with _ | ⟨c, l2⟩
  · rw [hl] at h; exact absurd (show false = true from h) Bool.false_ne_true
  rcases l2 with _ | ⟨d, l3⟩
  · rw [hl] at h; exact absurd (show false = true from h) Bool.false_ne_true
  rw [hl] at h
  have h : (Nat.beq n 3 && (Nat.beq b.toNat k && (Nat.beq c.toNat x && decide (Reader.signed 8 d.toNat = v)))) = true := h
  rw [Bool.and_eq_true, Bool.and_eq_true, Bool.and_eq_true, decide_eq_true_eq] at h
  have e1 : n = 3 := Nat.eq_of_beq_eq_true h.1
  have e2 : b.toNat = k := Nat.eq_of_beq_eq_true h.2.1
  have e3 : c.toNat = x := Nat.eq_of_beq_eq_true h.2.2.1
  have e4 := h.2.2.2
  subst e1
  apply dz_dec
  rw [hI]
  obtain ⟨u0, d0⟩ := dz_b hl
  rw [dz_bind F u0, e2, hF]
  obtain ⟨u1, d1⟩ := dz_b d0
  rw [dz_bind _ u1, e3]
  obtain ⟨u2, d2⟩ := dz_b d1
  have u3 : (Reader.s1 : Reader DecodeError Int) C (p + 1 + 1) = _ := dz_map _ u2
  rw [dz_bind _ u3, e4]
  rfl
set_option maxRecDepth 16384 in
set_option maxHeartbeats 0 in
theorem dz_F (p : Nat) : ∃ F : Nat → Reader DecodeError Instr, Decoder.instr p = (Reader.u1 >>= F) ∧ F 96 = Pure.pure .iadd ∧ F 100 = Pure.pure .isub ∧ F 104 = Pure.pure .imul ∧ F 108 = Pure.pure .idiv ∧ F 112 = Pure.pure .irem ∧ F 116 = Pure.pure .ineg ∧ F 120 = Pure.pure .ishl ∧ F 122 = Pure.pure .ishr ∧ F 124 = Pure.pure .iushr ∧ F 126 = Pure.pure .iand ∧ F 128 = Pure.pure .ior ∧ F 130 = Pure.pure .ixor ∧ F 97 = Pure.pure .ladd ∧ F 101 = Pure.pure .lsub ∧ F 105 = Pure.pure .lmul ∧ F 109 = Pure.pure .ldiv ∧ F 113 = Pure.pure .lrem ∧ F 117 = Pure.pure .lneg ∧ F 121 = Pure.pure .lshl ∧ F 123 = Pure.pure .lshr ∧ F 125 = Pure.pure .lushr ∧ F 127 = Pure.pure .land ∧ F 129 = Pure.pure .lor ∧ F 131 = Pure.pure .lxor ∧ F 46 = Pure.pure .iaload ∧ F 79 = Pure.pure .iastore ∧ F 47 = Pure.pure .laload ∧ F 80 = Pure.pure .lastore ∧ F 50 = Pure.pure .aaload ∧ F 83 = Pure.pure .aastore ∧ F 51 = Pure.pure .baload ∧ F 84 = Pure.pure .bastore ∧ F 52 = Pure.pure .caload ∧ F 85 = Pure.pure .castore ∧ F 87 = Pure.pure .pop ∧ F 88 = Pure.pure .pop2 ∧ F 89 = Pure.pure .dup ∧ F 90 = Pure.pure .dup_x1 ∧ F 91 = Pure.pure .dup_x2 ∧ F 92 = Pure.pure .dup2 ∧ F 93 = Pure.pure .dup2_x1 ∧ F 94 = Pure.pure .dup2_x2 ∧ F 95 = Pure.pure .swap ∧ F 172 = Pure.pure .ireturn ∧ F 173 = Pure.pure .lreturn ∧ F 176 = Pure.pure .areturn ∧ F 177 = Pure.pure .return_ ∧ F 190 = Pure.pure .arraylength ∧ F 191 = Pure.pure .athrow ∧ F 133 = Pure.pure .i2l ∧ F 136 = Pure.pure .l2i ∧ F 146 = Pure.pure .i2c ∧ F 145 = Pure.pure .i2b ∧ F 148 = Pure.pure .lcmp ∧ F 1 = Pure.pure .aconst_null ∧ F 0 = Pure.pure .nop ∧ F 26 = Pure.pure (.iload_n 0) ∧ F 27 = Pure.pure (.iload_n 1) ∧ F 28 = Pure.pure (.iload_n 2) ∧ F 29 = Pure.pure (.iload_n 3) ∧ F 30 = Pure.pure (.lload_n 0) ∧ F 31 = Pure.pure (.lload_n 1) ∧ F 32 = Pure.pure (.lload_n 2) ∧ F 33 = Pure.pure (.lload_n 3) ∧ F 42 = Pure.pure (.aload_n 0) ∧ F 43 = Pure.pure (.aload_n 1) ∧ F 44 = Pure.pure (.aload_n 2) ∧ F 45 = Pure.pure (.aload_n 3) ∧ F 59 = Pure.pure (.istore_n 0) ∧ F 60 = Pure.pure (.istore_n 1) ∧ F 61 = Pure.pure (.istore_n 2) ∧ F 62 = Pure.pure (.istore_n 3) ∧ F 63 = Pure.pure (.lstore_n 0) ∧ F 64 = Pure.pure (.lstore_n 1) ∧ F 65 = Pure.pure (.lstore_n 2) ∧ F 66 = Pure.pure (.lstore_n 3) ∧ F 75 = Pure.pure (.astore_n 0) ∧ F 76 = Pure.pure (.astore_n 1) ∧ F 77 = Pure.pure (.astore_n 2) ∧ F 78 = Pure.pure (.astore_n 3) ∧ F 2 = Pure.pure (.iconst (-1)) ∧ F 3 = Pure.pure (.iconst 0) ∧ F 4 = Pure.pure (.iconst 1) ∧ F 5 = Pure.pure (.iconst 2) ∧ F 6 = Pure.pure (.iconst 3) ∧ F 7 = Pure.pure (.iconst 4) ∧ F 8 = Pure.pure (.iconst 5) ∧ F 9 = Pure.pure (.lconst 0) ∧ F 10 = Pure.pure (.lconst 1) ∧ F 21 = (Reader.u1 >>= fun y => Pure.pure (.iload y)) ∧ F 22 = (Reader.u1 >>= fun y => Pure.pure (.lload y)) ∧ F 25 = (Reader.u1 >>= fun y => Pure.pure (.aload y)) ∧ F 54 = (Reader.u1 >>= fun y => Pure.pure (.istore y)) ∧ F 55 = (Reader.u1 >>= fun y => Pure.pure (.lstore y)) ∧ F 58 = (Reader.u1 >>= fun y => Pure.pure (.astore y)) ∧ F 18 = (Reader.u1 >>= fun y => Pure.pure (.ldc y)) ∧ F 19 = (Reader.u2 >>= fun y => Pure.pure (.ldc_w y)) ∧ F 20 = (Reader.u2 >>= fun y => Pure.pure (.ldc2_w y)) ∧ F 178 = (Reader.u2 >>= fun y => Pure.pure (.getstatic y)) ∧ F 179 = (Reader.u2 >>= fun y => Pure.pure (.putstatic y)) ∧ F 180 = (Reader.u2 >>= fun y => Pure.pure (.getfield y)) ∧ F 181 = (Reader.u2 >>= fun y => Pure.pure (.putfield y)) ∧ F 182 = (Reader.u2 >>= fun y => Pure.pure (.invokevirtual y)) ∧ F 183 = (Reader.u2 >>= fun y => Pure.pure (.invokespecial y)) ∧ F 184 = (Reader.u2 >>= fun y => Pure.pure (.invokestatic y)) ∧ F 187 = (Reader.u2 >>= fun y => Pure.pure (.new y)) ∧ F 189 = (Reader.u2 >>= fun y => Pure.pure (.anewarray y)) ∧ F 192 = (Reader.u2 >>= fun y => Pure.pure (.checkcast y)) ∧ F 193 = (Reader.u2 >>= fun y => Pure.pure (.instanceof y)) ∧ F 16 = (Reader.s1 >>= fun y => Pure.pure (.bipush y)) ∧ F 17 = (Reader.s2 >>= fun y => Pure.pure (.sipush y)) ∧ F 167 = (Reader.s2 >>= fun y => Pure.pure (.goto y)) ∧ F 198 = (Reader.s2 >>= fun y => Pure.pure (.ifnull y)) ∧ F 199 = (Reader.s2 >>= fun y => Pure.pure (.ifnonnull y)) ∧ F 153 = (Reader.s2 >>= fun y => Pure.pure (.ifCond .eq y)) ∧ F 159 = (Reader.s2 >>= fun y => Pure.pure (.if_icmp .eq y)) ∧ F 154 = (Reader.s2 >>= fun y => Pure.pure (.ifCond .ne y)) ∧ F 160 = (Reader.s2 >>= fun y => Pure.pure (.if_icmp .ne y)) ∧ F 155 = (Reader.s2 >>= fun y => Pure.pure (.ifCond .lt y)) ∧ F 161 = (Reader.s2 >>= fun y => Pure.pure (.if_icmp .lt y)) ∧ F 156 = (Reader.s2 >>= fun y => Pure.pure (.ifCond .ge y)) ∧ F 162 = (Reader.s2 >>= fun y => Pure.pure (.if_icmp .ge y)) ∧ F 157 = (Reader.s2 >>= fun y => Pure.pure (.ifCond .gt y)) ∧ F 163 = (Reader.s2 >>= fun y => Pure.pure (.if_icmp .gt y)) ∧ F 158 = (Reader.s2 >>= fun y => Pure.pure (.ifCond .le y)) ∧ F 164 = (Reader.s2 >>= fun y => Pure.pure (.if_icmp .le y)) ∧ F 165 = (Reader.s2 >>= fun y => Pure.pure (.if_acmp .eq y)) ∧ F 166 = (Reader.s2 >>= fun y => Pure.pure (.if_acmp .ne y)) ∧ F 132 = (Reader.u1 >>= fun y => Reader.s1 >>= fun z => Pure.pure (.iinc y z)) := by
  delta Decoder.instr
  exact ⟨_, rfl, rfl, rfl, rfl, rfl, rfl, rfl, rfl, rfl, rfl, rfl, rfl, rfl, rfl, rfl, rfl, rfl, rfl, rfl, rfl, rfl, rfl, rfl, rfl, rfl, rfl, rfl, rfl, rfl, rfl, rfl, rfl, rfl, rfl, rfl, rfl, rfl, rfl, rfl, rfl, rfl, rfl, rfl, rfl, rfl, rfl, rfl, rfl, rfl, rfl, rfl, rfl, rfl, rfl, rfl, rfl, rfl, rfl, rfl, rfl, rfl, rfl, rfl, rfl, rfl, rfl, rfl, rfl, rfl, rfl, rfl, rfl, rfl, rfl, rfl, rfl, rfl, rfl, rfl, rfl, rfl, rfl, rfl, rfl, rfl, rfl, rfl, rfl, rfl, rfl, rfl, rfl, rfl, rfl, rfl, rfl, rfl, rfl, rfl, rfl, rfl, rfl, rfl, rfl, rfl, rfl, rfl, rfl, rfl, rfl, rfl, rfl, rfl, rfl, rfl, rfl, rfl, rfl, rfl, rfl, rfl, rfl, rfl, rfl, rfl, rfl, rfl, rfl, rfl, rfl⟩
def dz (l : List UInt8) (i : Instr) (n : Nat) : Bool := match i with
  | .iadd => dz0 l n 96
  | .isub => dz0 l n 100
  | .imul => dz0 l n 104
  | .idiv => dz0 l n 108
  | .irem => dz0 l n 112
  | .ineg => dz0 l n 116
  | .ishl => dz0 l n 120
  | .ishr => dz0 l n 122
  | .iushr => dz0 l n 124
  | .iand => dz0 l n 126
  | .ior => dz0 l n 128
  | .ixor => dz0 l n 130
  | .ladd => dz0 l n 97
  | .lsub => dz0 l n 101
  | .lmul => dz0 l n 105
  | .ldiv => dz0 l n 109
  | .lrem => dz0 l n 113
  | .lneg => dz0 l n 117
  | .lshl => dz0 l n 121
  | .lshr => dz0 l n 123
  | .lushr => dz0 l n 125
  | .land => dz0 l n 127
  | .lor => dz0 l n 129
  | .lxor => dz0 l n 131
  | .iaload => dz0 l n 46
  | .iastore => dz0 l n 79
  | .laload => dz0 l n 47
  | .lastore => dz0 l n 80
  | .aaload => dz0 l n 50
  | .aastore => dz0 l n 83
  | .baload => dz0 l n 51
  | .bastore => dz0 l n 84
  | .caload => dz0 l n 52
  | .castore => dz0 l n 85
  | .pop => dz0 l n 87
  | .pop2 => dz0 l n 88
  | .dup => dz0 l n 89
  | .dup_x1 => dz0 l n 90
  | .dup_x2 => dz0 l n 91
  | .dup2 => dz0 l n 92
  | .dup2_x1 => dz0 l n 93
  | .dup2_x2 => dz0 l n 94
  | .swap => dz0 l n 95
  | .ireturn => dz0 l n 172
  | .lreturn => dz0 l n 173
  | .areturn => dz0 l n 176
  | .return_ => dz0 l n 177
  | .arraylength => dz0 l n 190
  | .athrow => dz0 l n 191
  | .i2l => dz0 l n 133
  | .l2i => dz0 l n 136
  | .i2c => dz0 l n 146
  | .i2b => dz0 l n 145
  | .lcmp => dz0 l n 148
  | .aconst_null => dz0 l n 1
  | .nop => dz0 l n 0
  | .iload_n k => dz0 l n (26 + k.val)
  | .lload_n k => dz0 l n (30 + k.val)
  | .aload_n k => dz0 l n (42 + k.val)
  | .istore_n k => dz0 l n (59 + k.val)
  | .lstore_n k => dz0 l n (63 + k.val)
  | .astore_n k => dz0 l n (75 + k.val)
  | .iconst k => (decide (-1 ≤ k) && decide (k ≤ 5)) && dz0 l n (k + 3).toNat
  | .lconst k => dz0 l n (9 + k.val)
  | .iload x => dzu1 l n 21 x
  | .lload x => dzu1 l n 22 x
  | .aload x => dzu1 l n 25 x
  | .istore x => dzu1 l n 54 x
  | .lstore x => dzu1 l n 55 x
  | .astore x => dzu1 l n 58 x
  | .ldc x => dzu1 l n 18 x
  | .ldc_w x => dzu2 l n 19 x
  | .ldc2_w x => dzu2 l n 20 x
  | .getstatic x => dzu2 l n 178 x
  | .putstatic x => dzu2 l n 179 x
  | .getfield x => dzu2 l n 180 x
  | .putfield x => dzu2 l n 181 x
  | .invokevirtual x => dzu2 l n 182 x
  | .invokespecial x => dzu2 l n 183 x
  | .invokestatic x => dzu2 l n 184 x
  | .new x => dzu2 l n 187 x
  | .anewarray x => dzu2 l n 189 x
  | .checkcast x => dzu2 l n 192 x
  | .instanceof x => dzu2 l n 193 x
  | .bipush x => dzs1 l n 16 x
  | .sipush x => dzs2 l n 17 x
  | .goto x => dzs2 l n 167 x
  | .ifnull x => dzs2 l n 198 x
  | .ifnonnull x => dzs2 l n 199 x
  | .ifCond c x => dzs2 l n (match c with | .eq => 153 | .ne => 154 | .lt => 155 | .ge => 156 | .gt => 157 | .le => 158) x
  | .if_icmp c x => dzs2 l n (match c with | .eq => 159 | .ne => 160 | .lt => 161 | .ge => 162 | .gt => 163 | .le => 164) x
  | .if_acmp c x => dzs2 l n (match c with | .eq => 165 | .ne => 166) x
  | .iinc x v => dzii l n 132 x v
  | _ => false
set_option maxRecDepth 16384 in
set_option maxHeartbeats 0 in
theorem dz_ok {C : ByteArray} {p n : Nat} : ∀ (i : Instr), dz (C.data.toList.drop p) i n = true → decode C p = .ok (i, n) := by
  obtain ⟨F, hI, f96, f100, f104, f108, f112, f116, f120, f122, f124, f126, f128, f130, f97, f101, f105, f109, f113, f117, f121, f123, f125, f127, f129, f131, f46, f79, f47, f80, f50, f83, f51, f84, f52, f85, f87, f88, f89, f90, f91, f92, f93, f94, f95, f172, f173, f176, f177, f190, f191, f133, f136, f146, f145, f148, f1, f0, f26, f27, f28, f29, f30, f31, f32, f33, f42, f43, f44, f45, f59, f60, f61, f62, f63, f64, f65, f66, f75, f76, f77, f78, f2, f3, f4, f5, f6, f7, f8, f9, f10, f21, f22, f25, f54, f55, f58, f18, f19, f20, f178, f179, f180, f181, f182, f183, f184, f187, f189, f192, f193, f16, f17, f167, f198, f199, f153, f159, f154, f160, f155, f161, f156, f162, f157, f163, f158, f164, f165, f166, f132⟩ := dz_F p
  intro i h
  cases i
  case iadd => exact dz0_ok hI 96 h f96
  case isub => exact dz0_ok hI 100 h f100
  case imul => exact dz0_ok hI 104 h f104
  case idiv => exact dz0_ok hI 108 h f108
  case irem => exact dz0_ok hI 112 h f112
  case ineg => exact dz0_ok hI 116 h f116
  case ishl => exact dz0_ok hI 120 h f120
  case ishr => exact dz0_ok hI 122 h f122
  case iushr => exact dz0_ok hI 124 h f124
  case iand => exact dz0_ok hI 126 h f126
  case ior => exact dz0_ok hI 128 h f128
  case ixor => exact dz0_ok hI 130 h f130
  case ladd => exact dz0_ok hI 97 h f97
  case lsub => exact dz0_ok hI 101 h f101
  case lmul => exact dz0_ok hI 105 h f105
  case ldiv => exact dz0_ok hI 109 h f109
  case lrem => exact dz0_ok hI 113 h f113
  case lneg => exact dz0_ok hI 117 h f117
  case lshl => exact dz0_ok hI 121 h f121
  case lshr => exact dz0_ok hI 123 h f123
  case lushr => exact dz0_ok hI 125 h f125
  case land => exact dz0_ok hI 127 h f127
  case lor => exact dz0_ok hI 129 h f129
  case lxor => exact dz0_ok hI 131 h f131
  case iaload => exact dz0_ok hI 46 h f46
  case iastore => exact dz0_ok hI 79 h f79
  case laload => exact dz0_ok hI 47 h f47
  case lastore => exact dz0_ok hI 80 h f80
  case aaload => exact dz0_ok hI 50 h f50
  case aastore => exact dz0_ok hI 83 h f83
  case baload => exact dz0_ok hI 51 h f51
  case bastore => exact dz0_ok hI 84 h f84
  case caload => exact dz0_ok hI 52 h f52
  case castore => exact dz0_ok hI 85 h f85
  case pop => exact dz0_ok hI 87 h f87
  case pop2 => exact dz0_ok hI 88 h f88
  case dup => exact dz0_ok hI 89 h f89
  case dup_x1 => exact dz0_ok hI 90 h f90
  case dup_x2 => exact dz0_ok hI 91 h f91
  case dup2 => exact dz0_ok hI 92 h f92
  case dup2_x1 => exact dz0_ok hI 93 h f93
  case dup2_x2 => exact dz0_ok hI 94 h f94
  case swap => exact dz0_ok hI 95 h f95
  case ireturn => exact dz0_ok hI 172 h f172
  case lreturn => exact dz0_ok hI 173 h f173
  case areturn => exact dz0_ok hI 176 h f176
  case return_ => exact dz0_ok hI 177 h f177
  case arraylength => exact dz0_ok hI 190 h f190
  case athrow => exact dz0_ok hI 191 h f191
  case i2l => exact dz0_ok hI 133 h f133
  case l2i => exact dz0_ok hI 136 h f136
  case i2c => exact dz0_ok hI 146 h f146
  case i2b => exact dz0_ok hI 145 h f145
  case lcmp => exact dz0_ok hI 148 h f148
  case aconst_null => exact dz0_ok hI 1 h f1
  case nop => exact dz0_ok hI 0 h f0
  case iload_n k =>
    obtain ⟨k, hk⟩ := k
    have e : k = 0 ∨ k = 1 ∨ k = 2 ∨ k = 3 := by omega
    rcases e with rfl | rfl | rfl | rfl
    · exact dz0_ok hI 26 h f26
    · exact dz0_ok hI 27 h f27
    · exact dz0_ok hI 28 h f28
    · exact dz0_ok hI 29 h f29
  case lload_n k =>
    obtain ⟨k, hk⟩ := k
    have e : k = 0 ∨ k = 1 ∨ k = 2 ∨ k = 3 := by omega
    rcases e with rfl | rfl | rfl | rfl
    · exact dz0_ok hI 30 h f30
    · exact dz0_ok hI 31 h f31
    · exact dz0_ok hI 32 h f32
    · exact dz0_ok hI 33 h f33
  case aload_n k =>
    obtain ⟨k, hk⟩ := k
    have e : k = 0 ∨ k = 1 ∨ k = 2 ∨ k = 3 := by omega
    rcases e with rfl | rfl | rfl | rfl
    · exact dz0_ok hI 42 h f42
    · exact dz0_ok hI 43 h f43
    · exact dz0_ok hI 44 h f44
    · exact dz0_ok hI 45 h f45
  case istore_n k =>
    obtain ⟨k, hk⟩ := k
    have e : k = 0 ∨ k = 1 ∨ k = 2 ∨ k = 3 := by omega
    rcases e with rfl | rfl | rfl | rfl
    · exact dz0_ok hI 59 h f59
    · exact dz0_ok hI 60 h f60
    · exact dz0_ok hI 61 h f61
    · exact dz0_ok hI 62 h f62
  case lstore_n k =>
    obtain ⟨k, hk⟩ := k
    have e : k = 0 ∨ k = 1 ∨ k = 2 ∨ k = 3 := by omega
    rcases e with rfl | rfl | rfl | rfl
    · exact dz0_ok hI 63 h f63
    · exact dz0_ok hI 64 h f64
    · exact dz0_ok hI 65 h f65
    · exact dz0_ok hI 66 h f66
  case astore_n k =>
    obtain ⟨k, hk⟩ := k
    have e : k = 0 ∨ k = 1 ∨ k = 2 ∨ k = 3 := by omega
    rcases e with rfl | rfl | rfl | rfl
    · exact dz0_ok hI 75 h f75
    · exact dz0_ok hI 76 h f76
    · exact dz0_ok hI 77 h f77
    · exact dz0_ok hI 78 h f78
  case iconst k =>
    have h : ((decide (-1 ≤ k) && decide (k ≤ 5)) && dz0 (C.data.toList.drop p) n (k + 3).toNat) = true := h
    rw [Bool.and_eq_true, Bool.and_eq_true, decide_eq_true_eq, decide_eq_true_eq] at h
    obtain ⟨⟨h1, h2⟩, h⟩ := h
    have e : k = -1 ∨ k = 0 ∨ k = 1 ∨ k = 2 ∨ k = 3 ∨ k = 4 ∨ k = 5 := by omega
    rcases e with rfl | rfl | rfl | rfl | rfl | rfl | rfl
    · exact dz0_ok hI 2 h f2
    · exact dz0_ok hI 3 h f3
    · exact dz0_ok hI 4 h f4
    · exact dz0_ok hI 5 h f5
    · exact dz0_ok hI 6 h f6
    · exact dz0_ok hI 7 h f7
    · exact dz0_ok hI 8 h f8
  case lconst k =>
    obtain ⟨k, hk⟩ := k
    have e : k = 0 ∨ k = 1 := by omega
    rcases e with rfl | rfl
    · exact dz0_ok hI 9 h f9
    · exact dz0_ok hI 10 h f10
  case iload x => exact dzu1_ok hI 21 (g := .iload) h f21
  case lload x => exact dzu1_ok hI 22 (g := .lload) h f22
  case aload x => exact dzu1_ok hI 25 (g := .aload) h f25
  case istore x => exact dzu1_ok hI 54 (g := .istore) h f54
  case lstore x => exact dzu1_ok hI 55 (g := .lstore) h f55
  case astore x => exact dzu1_ok hI 58 (g := .astore) h f58
  case ldc x => exact dzu1_ok hI 18 (g := .ldc) h f18
  case ldc_w x => exact dzu2_ok hI 19 (g := .ldc_w) h f19
  case ldc2_w x => exact dzu2_ok hI 20 (g := .ldc2_w) h f20
  case getstatic x => exact dzu2_ok hI 178 (g := .getstatic) h f178
  case putstatic x => exact dzu2_ok hI 179 (g := .putstatic) h f179
  case getfield x => exact dzu2_ok hI 180 (g := .getfield) h f180
  case putfield x => exact dzu2_ok hI 181 (g := .putfield) h f181
  case invokevirtual x => exact dzu2_ok hI 182 (g := .invokevirtual) h f182
  case invokespecial x => exact dzu2_ok hI 183 (g := .invokespecial) h f183
  case invokestatic x => exact dzu2_ok hI 184 (g := .invokestatic) h f184
  case new x => exact dzu2_ok hI 187 (g := .new) h f187
  case anewarray x => exact dzu2_ok hI 189 (g := .anewarray) h f189
  case checkcast x => exact dzu2_ok hI 192 (g := .checkcast) h f192
  case instanceof x => exact dzu2_ok hI 193 (g := .instanceof) h f193
  case bipush x => exact dzs1_ok hI 16 (g := .bipush) h f16
  case sipush x => exact dzs2_ok hI 17 (g := .sipush) h f17
  case goto x => exact dzs2_ok hI 167 (g := .goto) h f167
  case ifnull x => exact dzs2_ok hI 198 (g := .ifnull) h f198
  case ifnonnull x => exact dzs2_ok hI 199 (g := .ifnonnull) h f199
  case ifCond c x =>
    cases c
    case eq => exact dzs2_ok hI 153 (g := .ifCond .eq) h f153
    case ne => exact dzs2_ok hI 154 (g := .ifCond .ne) h f154
    case lt => exact dzs2_ok hI 155 (g := .ifCond .lt) h f155
    case ge => exact dzs2_ok hI 156 (g := .ifCond .ge) h f156
    case gt => exact dzs2_ok hI 157 (g := .ifCond .gt) h f157
    case le => exact dzs2_ok hI 158 (g := .ifCond .le) h f158
  case if_icmp c x =>
    cases c
    case eq => exact dzs2_ok hI 159 (g := .if_icmp .eq) h f159
    case ne => exact dzs2_ok hI 160 (g := .if_icmp .ne) h f160
    case lt => exact dzs2_ok hI 161 (g := .if_icmp .lt) h f161
    case ge => exact dzs2_ok hI 162 (g := .if_icmp .ge) h f162
    case gt => exact dzs2_ok hI 163 (g := .if_icmp .gt) h f163
    case le => exact dzs2_ok hI 164 (g := .if_icmp .le) h f164
  case if_acmp c x =>
    cases c
    case eq => exact dzs2_ok hI 165 (g := .if_acmp .eq) h f165
    case ne => exact dzs2_ok hI 166 (g := .if_acmp .ne) h f166
  case iinc x v => exact dzii_ok hI 132 (g := .iinc) h f132
  all_goals exact absurd (show false = true from h) Bool.false_ne_true
def dzC : List (Nat × Instr × Nat) → Nat → List UInt8 → Bool
  | [], _, _ => true
  | (q, i, n) :: r, p, l => (Nat.ble p q && dz (l.drop (q - p)) i n) && dzC r q (l.drop (q - p))
theorem dzC_ok {C : ByteArray} : ∀ (t : List (Nat × Instr × Nat)) (p : Nat), dzC t p (C.data.toList.drop p) = true → ∀ x ∈ t, decode C x.1 = .ok x.2
  | [], _, _, x, hx => by cases hx
  | (q, i, n) :: r, p, h, x, hx => by
    have h : ((Nat.ble p q && dz ((C.data.toList.drop p).drop (q - p)) i n) && dzC r q ((C.data.toList.drop p).drop (q - p))) = true := h
    rw [Bool.and_eq_true, Bool.and_eq_true] at h
    have hq : p ≤ q := Nat.le_of_ble_eq_true h.1.1
    have e : (C.data.toList.drop p).drop (q - p) = C.data.toList.drop q := by
      rw [List.drop_drop, show p + (q - p) = q by omega]
    rw [e] at h
    rcases List.mem_cons.mp hx with e1 | e1
    · rw [e1]; exact dz_ok i h.1.2
    · exact dzC_ok r q h.2 x e1
theorem dzr {C : ByteArray} {t : List (Nat × Instr × Nat)} {p : Nat} (h : dzC t p (C.data.toList.drop p) = true) (k : Nat) {q n : Nat} {i : Instr} (e : t[k]? = some (q, i, n)) : decode C q = .ok (i, n) := dzC_ok t p h (q, i, n) (List.mem_of_getElem? e)
