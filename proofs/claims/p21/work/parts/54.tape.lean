/-! the tape: bytes of words -/
def byt (w : Int32) (i : Nat) : Int32 := (w >>> (nI (24 - 8 * i) &&& 31)) &&& 255
theorem b_255 : ∀ i, i < 32 → bt (255 : Int32) i = decide (i < 8) := by decide +kernel
theorem u_l : ∀ n, n < 32 → ((nI n).toUInt32 &&& Int32.toUInt32 31).toNat = n := by decide +kernel
theorem b_ushr (n : Nat) (hn : n < 32) (x : Int32) {i : Nat} : bt (ushr x (nI n)) i = bt x (n + i) := by
  unfold bt
  show (x.toBitVec >>> (((nI n).toUInt32 &&& Int32.toUInt32 31).toBitVec % 32)).getLsbD i = _
  rw [BitVec.ushiftRight_eq']
  have h : (((nI n).toUInt32 &&& Int32.toUInt32 31).toBitVec % 32#32).toNat = n := by
    rw [BitVec.toNat_umod]
    show ((nI n).toUInt32 &&& Int32.toUInt32 31).toNat % 32 = n
    rw [u_l n hn]
    omega
  rw [show ((32 : BitVec 32)) = 32#32 from rfl, h, BitVec.getLsbD_ushiftRight]
theorem byt_u {i : Nat} (hi : i < 4) (w : Int32) : ushr w (nI (24 - 8 * i)) &&& (255 : Int32) = byt w i := by
  apply b_ext
  intro j hj
  unfold byt
  rw [b_and, b_and, b_255 j hj, b_ushr _ (by omega), b_sshr _ (by omega) w hj]
  by_cases h : j < 8
  · rw [if_pos (by omega)]
  · rw [decide_eq_false h, Bool.and_false, Bool.and_false]
theorem and255 (x : Int32) : ∃ j : Nat, j ≤ 255 ∧ x &&& (255 : Int32) = nI j := by
  have h1 : (x &&& (255 : Int32)).toBitVec.toNat ≤ 255 := by
    rw [Int32.toBitVec_and, BitVec.toNat_and]
    exact Nat.and_le_right
  rcases rng (x &&& (255 : Int32)) 255 (by omega) with h | h | ⟨h0, h, h2⟩
  · exact h
  · exfalso
    have h3 : bt (x &&& (255 : Int32)) 31 = false := by rw [b_and, b_255 31 (by omega)]; simp
    rw [lt32] at h
    have h4 : (nI 0).toInt = 0 := by decide
    rw [h4] at h
    have h5 : (x &&& (255 : Int32)).toInt = ((x &&& (255 : Int32)).toBitVec.toNat : Int) := by
      show (x &&& (255 : Int32)).toBitVec.toInt = _
      rw [BitVec.toInt_eq_toNat_of_lt (by omega)]
    omega
  · exfalso
    rw [lt32] at h
    have h4 : (nI 255).toInt = 255 := by decide
    rw [h4] at h
    have h5 : (x &&& (255 : Int32)).toInt = ((x &&& (255 : Int32)).toBitVec.toNat : Int) := by
      show (x &&& (255 : Int32)).toBitVec.toInt = _
      rw [BitVec.toInt_eq_toNat_of_lt (by omega)]
    omega
theorem byt_r (w : Int32) (i : Nat) : ∃ j : Nat, j ≤ 255 ∧ byt w i = nI j := and255 _
/-- one byte onto the tape -/
def p1 (b : Int32) (s : Nat × (Nat → Int32)) : Nat × (Nat → Int32) := if b = nI 0 then s else (s.1 + 1, upd s.2 s.1 b)
def pt (w : Int32) (s : Nat × (Nat → Int32)) : Nat × (Nat → Int32) := p1 (byt w 3) (p1 (byt w 2) (p1 (byt w 1) (p1 (byt w 0) s)))
def z1 (b : Int32) : Nat := if b = nI 0 then 0 else 1
def nz (w : Int32) : Nat := z1 (byt w 0) + z1 (byt w 1) + z1 (byt w 2) + z1 (byt w 3)
theorem z1_le (b : Int32) : z1 b ≤ 1 := by unfold z1; split <;> omega
theorem nz_le (w : Int32) : nz w ≤ 4 := by
  have h0 := z1_le (byt w 0); have h1 := z1_le (byt w 1); have h2 := z1_le (byt w 2); have h3 := z1_le (byt w 3)
  unfold nz; omega
theorem p1_1 (b : Int32) (s : Nat × (Nat → Int32)) : (p1 b s).1 = s.1 + z1 b := by
  unfold p1 z1; split <;> rfl
theorem pt_1 (w : Int32) (s : Nat × (Nat → Int32)) : (pt w s).1 = s.1 + nz w := by
  unfold pt nz; rw [p1_1, p1_1, p1_1, p1_1]; omega
/-- the tape of both -/
def RT (n : Nat) (t u : Nat → Int32) : Prop := ∀ i, i < n → t i = u i ∧ ∃ j, 0 < j ∧ j ≤ 255 ∧ t i = nI j
theorem p1_R {b : Int32} (hb : ∃ j : Nat, j ≤ 255 ∧ b = nI j) {n : Nat} {t u : Nat → Int32} (h : RT n t u) : (p1 b (n, t)).1 = (p1 b (n, u)).1 ∧ RT (p1 b (n, t)).1 (p1 b (n, t)).2 (p1 b (n, u)).2 := by
  unfold p1
  by_cases e : b = nI 0
  · rw [if_pos e, if_pos e]; exact ⟨rfl, h⟩
  · rw [if_neg e, if_neg e]
    refine ⟨rfl, fun i hi => ?_⟩
    show upd t n b i = upd u n b i ∧ _
    by_cases q : i = n
    · rw [upd_y q, upd_y q]
      obtain ⟨j, hj, ej⟩ := hb
      refine ⟨rfl, j, ?_, hj, ?_⟩
      · rcases Nat.eq_zero_or_pos j with z | z
        · exact absurd (by rw [ej, z]) e
        · exact z
      · show upd t n b i = nI j
        rw [upd_y q, ej]
    · have hi2 : i < n + 1 := hi
      obtain ⟨h1, j, h2, h3, h4⟩ := h i (by omega)
      rw [upd_n q, upd_n q]
      exact ⟨h1, j, h2, h3, by show upd t n b i = nI j; rw [upd_n q, h4]⟩
theorem pt_R {w : Int32} {n : Nat} {t u : Nat → Int32} (h : RT n t u) : (pt w (n, t)).1 = (pt w (n, u)).1 ∧ RT (pt w (n, t)).1 (pt w (n, t)).2 (pt w (n, u)).2 := by
  unfold pt
  obtain ⟨e0, r0⟩ := p1_R (byt_r w 0) h
  generalize p1 (byt w 0) (n, t) = a0 at e0 r0 ⊢
  generalize p1 (byt w 0) (n, u) = b0 at e0 r0 ⊢
  obtain ⟨a0, ta⟩ := a0
  obtain ⟨b0, tb⟩ := b0
  obtain rfl : a0 = b0 := e0
  obtain ⟨e0, r0⟩ := p1_R (byt_r w 1) r0
  simp only at e0 r0 ⊢
  generalize p1 (byt w 1) (a0, ta) = a1 at e0 r0 ⊢
  generalize p1 (byt w 1) (a0, tb) = b1 at e0 r0 ⊢
  obtain ⟨a1, ta⟩ := a1
  obtain ⟨b1, tb⟩ := b1
  obtain rfl : a1 = b1 := e0
  obtain ⟨e0, r0⟩ := p1_R (byt_r w 2) r0
  simp only at e0 r0 ⊢
  generalize p1 (byt w 2) (a1, ta) = a2 at e0 r0 ⊢
  generalize p1 (byt w 2) (a1, tb) = b2 at e0 r0 ⊢
  obtain ⟨a2, ta⟩ := a2
  obtain ⟨b2, tb⟩ := b2
  obtain rfl : a2 = b2 := e0
  exact p1_R (byt_r w 3) r0
/-! the class -/

theorem bO_0 (n : Nat) (w : Int32) (s : Nat) (hs : s ≤ 100) : f_X10_bytesOf_5 (n + 1) w (nI s) (nI 24) = f_X10_bytesOf_5 n w (nI (s + z1 (byt w 0))) (nI 16) := by
  have hb := byt_u (i := 0) (by omega) w
  rw [show 24 - 8 * 0 = 24 from rfl] at hb
  have hd : nI 24 + (-8 : Int32) = nI 16 := by decide
  have hn : ¬ (nI 24 < (0 : Int32)) := by decide
  rw [show ∀ a b, f_X10_bytesOf_5 (n + 1) w a b = b_X10_bytesOf_5 (f_X10_bytesOf_5 n) w a b from fun _ _ => rfl]
  unfold b_X10_bytesOf_5 b_X10_bytesOf_22
  rw [if_neg hn, hb, hd]
  unfold z1
  simp only [bnd_def, lit_nI]
  by_cases e : byt w 0 = nI 0
  · rw [if_pos e, if_pos e, Nat.add_zero]
  · rw [if_neg e, if_neg e, nI_add]
theorem pU_0 (n : Nat) (w : Int32) (s : Nat × (Nat → Int32)) (hs : (p1 (byt w 0) s).1 ≤ 240) : f_X10_put_3 (n + 1) (nI s.1) s.2 w (nI 24) = f_X10_put_3 n (nI (p1 (byt w 0) s).1) (p1 (byt w 0) s).2 w (nI 16) := by
  have hb := byt_u (i := 0) (by omega) w
  rw [show 24 - 8 * 0 = 24 from rfl] at hb
  have hd : nI 24 + (-8 : Int32) = nI 16 := by decide
  have hn : ¬ (nI 24 < (0 : Int32)) := by decide
  rw [show ∀ a b c, f_X10_put_3 (n + 1) a b w c = b_X10_put_3 (f_X10_put_3 n) a b w c from fun _ _ _ => rfl]
  unfold b_X10_put_3 b_X10_put_49
  rw [if_neg hn, hb, hd]
  simp only [bnd_def, lit_nI]
  unfold p1 at hs ⊢
  by_cases e : byt w 0 = nI 0
  · rw [if_pos e, if_pos e]
  · rw [if_neg e] at hs
    rw [if_neg e, if_neg e]
    replace hs : s.1 + 1 ≤ 240 := hs
    simp (disch := omega) only [neg_nI, lit_nI, nI_add, pk_mul, pk_sub, nI_clamp, inB_nI, gd_true, bnd_def, nI_leI, nI_ltI, nI_eq, nI_mI, mI_nI, nle_T, nle_F, nlt_T, nlt_F, neq_T, neq_F, ↓reduceIte, Nat.add_zero, Nat.zero_add, Nat.mul_zero, Nat.reduceAdd, Nat.reduceMul, Nat.reduceSub, ob1_e, ob2_e, ob3_e, ob4_e, ob6_e]

theorem bO_1 (n : Nat) (w : Int32) (s : Nat) (hs : s ≤ 100) : f_X10_bytesOf_5 (n + 1) w (nI s) (nI 16) = f_X10_bytesOf_5 n w (nI (s + z1 (byt w 1))) (nI 8) := by
  have hb := byt_u (i := 1) (by omega) w
  rw [show 24 - 8 * 1 = 16 from rfl] at hb
  have hd : nI 16 + (-8 : Int32) = nI 8 := by decide
  have hn : ¬ (nI 16 < (0 : Int32)) := by decide
  rw [show ∀ a b, f_X10_bytesOf_5 (n + 1) w a b = b_X10_bytesOf_5 (f_X10_bytesOf_5 n) w a b from fun _ _ => rfl]
  unfold b_X10_bytesOf_5 b_X10_bytesOf_22
  rw [if_neg hn, hb, hd]
  unfold z1
  simp only [bnd_def, lit_nI]
  by_cases e : byt w 1 = nI 0
  · rw [if_pos e, if_pos e, Nat.add_zero]
  · rw [if_neg e, if_neg e, nI_add]
theorem pU_1 (n : Nat) (w : Int32) (s : Nat × (Nat → Int32)) (hs : (p1 (byt w 1) s).1 ≤ 240) : f_X10_put_3 (n + 1) (nI s.1) s.2 w (nI 16) = f_X10_put_3 n (nI (p1 (byt w 1) s).1) (p1 (byt w 1) s).2 w (nI 8) := by
  have hb := byt_u (i := 1) (by omega) w
  rw [show 24 - 8 * 1 = 16 from rfl] at hb
  have hd : nI 16 + (-8 : Int32) = nI 8 := by decide
  have hn : ¬ (nI 16 < (0 : Int32)) := by decide
  rw [show ∀ a b c, f_X10_put_3 (n + 1) a b w c = b_X10_put_3 (f_X10_put_3 n) a b w c from fun _ _ _ => rfl]
  unfold b_X10_put_3 b_X10_put_49
  rw [if_neg hn, hb, hd]
  simp only [bnd_def, lit_nI]
  unfold p1 at hs ⊢
  by_cases e : byt w 1 = nI 0
  · rw [if_pos e, if_pos e]
  · rw [if_neg e] at hs
    rw [if_neg e, if_neg e]
    replace hs : s.1 + 1 ≤ 240 := hs
    simp (disch := omega) only [neg_nI, lit_nI, nI_add, pk_mul, pk_sub, nI_clamp, inB_nI, gd_true, bnd_def, nI_leI, nI_ltI, nI_eq, nI_mI, mI_nI, nle_T, nle_F, nlt_T, nlt_F, neq_T, neq_F, ↓reduceIte, Nat.add_zero, Nat.zero_add, Nat.mul_zero, Nat.reduceAdd, Nat.reduceMul, Nat.reduceSub, ob1_e, ob2_e, ob3_e, ob4_e, ob6_e]

theorem bO_2 (n : Nat) (w : Int32) (s : Nat) (hs : s ≤ 100) : f_X10_bytesOf_5 (n + 1) w (nI s) (nI 8) = f_X10_bytesOf_5 n w (nI (s + z1 (byt w 2))) (nI 0) := by
  have hb := byt_u (i := 2) (by omega) w
  rw [show 24 - 8 * 2 = 8 from rfl] at hb
  have hd : nI 8 + (-8 : Int32) = nI 0 := by decide
  have hn : ¬ (nI 8 < (0 : Int32)) := by decide
  rw [show ∀ a b, f_X10_bytesOf_5 (n + 1) w a b = b_X10_bytesOf_5 (f_X10_bytesOf_5 n) w a b from fun _ _ => rfl]
  unfold b_X10_bytesOf_5 b_X10_bytesOf_22
  rw [if_neg hn, hb, hd]
  unfold z1
  simp only [bnd_def, lit_nI]
  by_cases e : byt w 2 = nI 0
  · rw [if_pos e, if_pos e, Nat.add_zero]
  · rw [if_neg e, if_neg e, nI_add]
theorem pU_2 (n : Nat) (w : Int32) (s : Nat × (Nat → Int32)) (hs : (p1 (byt w 2) s).1 ≤ 240) : f_X10_put_3 (n + 1) (nI s.1) s.2 w (nI 8) = f_X10_put_3 n (nI (p1 (byt w 2) s).1) (p1 (byt w 2) s).2 w (nI 0) := by
  have hb := byt_u (i := 2) (by omega) w
  rw [show 24 - 8 * 2 = 8 from rfl] at hb
  have hd : nI 8 + (-8 : Int32) = nI 0 := by decide
  have hn : ¬ (nI 8 < (0 : Int32)) := by decide
  rw [show ∀ a b c, f_X10_put_3 (n + 1) a b w c = b_X10_put_3 (f_X10_put_3 n) a b w c from fun _ _ _ => rfl]
  unfold b_X10_put_3 b_X10_put_49
  rw [if_neg hn, hb, hd]
  simp only [bnd_def, lit_nI]
  unfold p1 at hs ⊢
  by_cases e : byt w 2 = nI 0
  · rw [if_pos e, if_pos e]
  · rw [if_neg e] at hs
    rw [if_neg e, if_neg e]
    replace hs : s.1 + 1 ≤ 240 := hs
    simp (disch := omega) only [neg_nI, lit_nI, nI_add, pk_mul, pk_sub, nI_clamp, inB_nI, gd_true, bnd_def, nI_leI, nI_ltI, nI_eq, nI_mI, mI_nI, nle_T, nle_F, nlt_T, nlt_F, neq_T, neq_F, ↓reduceIte, Nat.add_zero, Nat.zero_add, Nat.mul_zero, Nat.reduceAdd, Nat.reduceMul, Nat.reduceSub, ob1_e, ob2_e, ob3_e, ob4_e, ob6_e]

theorem bO_3 (n : Nat) (w : Int32) (s : Nat) (hs : s ≤ 100) : f_X10_bytesOf_5 (n + 1) w (nI s) (nI 0) = f_X10_bytesOf_5 n w (nI (s + z1 (byt w 3))) (mI 8) := by
  have hb := byt_u (i := 3) (by omega) w
  rw [show 24 - 8 * 3 = 0 from rfl] at hb
  have hd : nI 0 + (-8 : Int32) = mI 8 := by decide
  have hn : ¬ (nI 0 < (0 : Int32)) := by decide
  rw [show ∀ a b, f_X10_bytesOf_5 (n + 1) w a b = b_X10_bytesOf_5 (f_X10_bytesOf_5 n) w a b from fun _ _ => rfl]
  unfold b_X10_bytesOf_5 b_X10_bytesOf_22
  rw [if_neg hn, hb, hd]
  unfold z1
  simp only [bnd_def, lit_nI]
  by_cases e : byt w 3 = nI 0
  · rw [if_pos e, if_pos e, Nat.add_zero]
  · rw [if_neg e, if_neg e, nI_add]
theorem pU_3 (n : Nat) (w : Int32) (s : Nat × (Nat → Int32)) (hs : (p1 (byt w 3) s).1 ≤ 240) : f_X10_put_3 (n + 1) (nI s.1) s.2 w (nI 0) = f_X10_put_3 n (nI (p1 (byt w 3) s).1) (p1 (byt w 3) s).2 w (mI 8) := by
  have hb := byt_u (i := 3) (by omega) w
  rw [show 24 - 8 * 3 = 0 from rfl] at hb
  have hd : nI 0 + (-8 : Int32) = mI 8 := by decide
  have hn : ¬ (nI 0 < (0 : Int32)) := by decide
  rw [show ∀ a b c, f_X10_put_3 (n + 1) a b w c = b_X10_put_3 (f_X10_put_3 n) a b w c from fun _ _ _ => rfl]
  unfold b_X10_put_3 b_X10_put_49
  rw [if_neg hn, hb, hd]
  simp only [bnd_def, lit_nI]
  unfold p1 at hs ⊢
  by_cases e : byt w 3 = nI 0
  · rw [if_pos e, if_pos e]
  · rw [if_neg e] at hs
    rw [if_neg e, if_neg e]
    replace hs : s.1 + 1 ≤ 240 := hs
    simp (disch := omega) only [neg_nI, lit_nI, nI_add, pk_mul, pk_sub, nI_clamp, inB_nI, gd_true, bnd_def, nI_leI, nI_ltI, nI_eq, nI_mI, mI_nI, nle_T, nle_F, nlt_T, nlt_F, neq_T, neq_F, ↓reduceIte, Nat.add_zero, Nat.zero_add, Nat.mul_zero, Nat.reduceAdd, Nat.reduceMul, Nat.reduceSub, ob1_e, ob2_e, ob3_e, ob4_e, ob6_e]

theorem bO_c (w : Int32) : f_X10_bytesOf w = some (nI (nz w)) := by
  obtain ⟨n, e⟩ : ∃ n, fu = n + 1 + 1 + 1 + 1 + 1 := ⟨fu - 5, by have := fu_le; omega⟩
  have h0 := z1_le (byt w 0); have h1 := z1_le (byt w 1); have h2 := z1_le (byt w 2); have h3 := z1_le (byt w 3)
  unfold f_X10_bytesOf b_X10_bytesOf_0
  rw [e]
  show f_X10_bytesOf_5 (n + 1 + 1 + 1 + 1 + 1) w (nI 0) (nI 24) = _
  rw [bO_0 _ _ _ (by omega), bO_1 _ _ _ (by omega), bO_2 _ _ _ (by omega), bO_3 _ _ _ (by omega)]
  unfold f_X10_bytesOf_5 b_X10_bytesOf_5
  rw [if_pos (by decide), Nat.zero_add]
  rfl
theorem pU_c (w : Int32) (s : Nat × (Nat → Int32)) (h : s.1 + nz w ≤ 240) : f_X10_put (nI s.1) s.2 w = some (nI (pt w s).1, (pt w s).2) := by
  obtain ⟨n, e⟩ : ∃ n, fu = n + 1 + 1 + 1 + 1 + 1 := ⟨fu - 5, by have := fu_le; omega⟩
  unfold nz at h
  unfold f_X10_put b_X10_put_0
  rw [e]
  show f_X10_put_3 (n + 1 + 1 + 1 + 1 + 1) (nI s.1) s.2 w (nI 24) = _
  rw [pU_0 _ _ _ (by rw [p1_1]; omega), pU_1 _ _ _ (by rw [p1_1, p1_1]; omega), pU_2 _ _ _ (by rw [p1_1, p1_1, p1_1]; omega), pU_3 _ _ _ (by rw [p1_1, p1_1, p1_1, p1_1]; omega)]
  unfold f_X10_put_3 b_X10_put_3
  rw [if_pos (by decide)]
  rfl
/-! the model -/
theorem bY_45 (t : Int32) : ∀ k, k < 20 → b_X12_byteOf_45 (nI k) t = some (byt t (k % 4)) := by
  intro k hk
  have hd : ∀ k, k < 20 → ((24 : Int32) - ((8 : Int32) * (rem (nI k) (4 : Int32)))) = nI (24 - 8 * (k % 4)) := by decide +kernel
  unfold b_X12_byteOf_45
  simp only [bnd_def]
  rw [hd k hk]
  rfl
def wd (v1 v2 v3 v4 v5 : Int32) (k : Nat) : Int32 := if k < 4 then v1 else if k < 8 then v2 else if k < 12 then v3 else if k < 16 then v4 else v5
theorem bY_c (v1 v2 v3 v4 v5 : Int32) {k : Nat} (hk : k < 20) : f_X12_byteOf v1 v2 v3 v4 v5 (nI k) = some (byt (wd v1 v2 v3 v4 v5 k) (k % 4)) := by
  unfold f_X12_byteOf b_X12_byteOf_0 wd
  by_cases h4 : k < 4
  · simp (disch := omega) only [neg_nI, lit_nI, nI_add, pk_mul, pk_sub, nI_clamp, inB_nI, gd_true, bnd_def, nI_leI, nI_ltI, nI_eq, nI_mI, mI_nI, nle_T, nle_F, nlt_T, nlt_F, neq_T, neq_F, ↓reduceIte, Nat.add_zero, Nat.zero_add, Nat.mul_zero, Nat.reduceAdd, Nat.reduceMul, Nat.reduceSub]
    rw [bY_45 _ k hk]
  by_cases h8 : k < 8
  · simp (disch := omega) only [neg_nI, lit_nI, nI_add, pk_mul, pk_sub, nI_clamp, inB_nI, gd_true, bnd_def, nI_leI, nI_ltI, nI_eq, nI_mI, mI_nI, nle_T, nle_F, nlt_T, nlt_F, neq_T, neq_F, ↓reduceIte, Nat.add_zero, Nat.zero_add, Nat.mul_zero, Nat.reduceAdd, Nat.reduceMul, Nat.reduceSub]
    rw [bY_45 _ k hk]
  by_cases h12 : k < 12
  · simp (disch := omega) only [neg_nI, lit_nI, nI_add, pk_mul, pk_sub, nI_clamp, inB_nI, gd_true, bnd_def, nI_leI, nI_ltI, nI_eq, nI_mI, mI_nI, nle_T, nle_F, nlt_T, nlt_F, neq_T, neq_F, ↓reduceIte, Nat.add_zero, Nat.zero_add, Nat.mul_zero, Nat.reduceAdd, Nat.reduceMul, Nat.reduceSub]
    rw [bY_45 _ k hk]
  by_cases h16 : k < 16
  · simp (disch := omega) only [neg_nI, lit_nI, nI_add, pk_mul, pk_sub, nI_clamp, inB_nI, gd_true, bnd_def, nI_leI, nI_ltI, nI_eq, nI_mI, mI_nI, nle_T, nle_F, nlt_T, nlt_F, neq_T, neq_F, ↓reduceIte, Nat.add_zero, Nat.zero_add, Nat.mul_zero, Nat.reduceAdd, Nat.reduceMul, Nat.reduceSub]
    rw [bY_45 _ k hk]
  · simp (disch := omega) only [neg_nI, lit_nI, nI_add, pk_mul, pk_sub, nI_clamp, inB_nI, gd_true, bnd_def, nI_leI, nI_ltI, nI_eq, nI_mI, mI_nI, nle_T, nle_F, nlt_T, nlt_F, neq_T, neq_F, ↓reduceIte, Nat.add_zero, Nat.zero_add, Nat.mul_zero, Nat.reduceAdd, Nat.reduceMul, Nat.reduceSub]
    rw [bY_45 _ k hk]
def ctF (b : Nat → Int32) : Nat → Nat → Nat
  | 0, _ => 0
  | j + 1, k => z1 (b k) + ctF b j (k + 1)
def ptF (b : Nat → Int32) : Nat → Nat → Nat × (Nat → Int32) → Nat × (Nat → Int32)
  | 0, _, s => s
  | j + 1, k, s => ptF b j (k + 1) (p1 (b k) s)
def wb (v1 v2 v3 v4 v5 : Int32) (k : Nat) : Int32 := byt (wd v1 v2 v3 v4 v5 k) (k % 4)
theorem ctF_le (b : Nat → Int32) : ∀ j k, ctF b j k ≤ j
  | 0, _ => Nat.le_refl _
  | j + 1, k => by unfold ctF; have := ctF_le b j (k + 1); have := z1_le (b k); omega
theorem ptF_1 (b : Nat → Int32) : ∀ j k s, (ptF b j k s).1 = s.1 + ctF b j k
  | 0, _, _ => rfl
  | j + 1, k, s => by unfold ptF ctF; rw [ptF_1 b j, p1_1]; omega
theorem ct_20 (v1 v2 v3 v4 v5 : Int32) : ctF (wb v1 v2 v3 v4 v5) 20 0 = nz v1 + nz v2 + nz v3 + nz v4 + nz v5 := by
  show z1 (byt v1 0) + (z1 (byt v1 1) + (z1 (byt v1 2) + (z1 (byt v1 3) + (z1 (byt v2 0) + (z1 (byt v2 1) + (z1 (byt v2 2) + (z1 (byt v2 3) + (z1 (byt v3 0) + (z1 (byt v3 1) + (z1 (byt v3 2) + (z1 (byt v3 3) + (z1 (byt v4 0) + (z1 (byt v4 1) + (z1 (byt v4 2) + (z1 (byt v4 3) + (z1 (byt v5 0) + (z1 (byt v5 1) + (z1 (byt v5 2) + (z1 (byt v5 3) + 0))))))))))))))))))) = _
  unfold nz
  omega
theorem pt_20 (v1 v2 v3 v4 v5 : Int32) (s : Nat × (Nat → Int32)) : ptF (wb v1 v2 v3 v4 v5) 20 0 s = pt v5 (pt v4 (pt v3 (pt v2 (pt v1 s)))) := rfl
theorem fY_6 {v1 v2 v3 v4 v5 : Int32} {sz : Int32} {t : Nat → Int32} : ∀ (j k c n : Nat), k + j = 20 → c ≤ k → j < n → f_X12_feed_6 n sz t v1 v2 v3 v4 v5 (nI c) (nI k) = (if sz + nI (c + ctF (wb v1 v2 v3 v4 v5) j k) ≤ (240 : Int32) then f_X12_feed_62 fu sz t v1 v2 v3 v4 v5 (0 : Int32) else some ((-1 : Int32), sz, t))
  | 0, k, c, n + 1, hk, hc, hn => by
    obtain rfl : k = 20 := by omega
    unfold f_X12_feed_6 b_X12_feed_6 ctF
    rw [if_pos (by decide)]
    rfl
  | j + 1, k, c, n + 1, hk, hc, hn => by
    have hk2 : ¬ ((20 : Int32) ≤ nI k) := by rw [lit_nI, nI_leI (by omega) (by omega)]; exact Nat.not_le.mpr (by omega)
    unfold f_X12_feed_6 b_X12_feed_6 ctF
    rw [if_neg hk2, bY_c _ _ _ _ _ (by omega), ob1_e]
    unfold b_X12_feed_35 z1
    change (if wb v1 v2 v3 v4 v5 k = nI 0 then _ else _) = _
    by_cases e : wb v1 v2 v3 v4 v5 k = nI 0
    · rw [if_pos e]
      simp only [bnd_def]
      rw [show nI c + (0 : Int32) = nI (c + 0) from nI_add c 0, show nI k + (1 : Int32) = nI (k + 1) from nI_add k 1, fY_6 j (k + 1) (c + 0) n (by omega) (by omega) (by omega), if_pos e, Nat.add_zero, Nat.zero_add]
    · rw [if_neg e]
      simp only [bnd_def]
      rw [show nI c + (1 : Int32) = nI (c + 1) from nI_add c 1, show nI k + (1 : Int32) = nI (k + 1) from nI_add k 1, fY_6 j (k + 1) (c + 1) n (by omega) (by omega) (by omega), if_neg e, Nat.add_assoc]
theorem fY_62 {v1 v2 v3 v4 v5 : Int32} : ∀ (j k n : Nat) (s : Nat × (Nat → Int32)), k + j = 20 → s.1 + ctF (wb v1 v2 v3 v4 v5) j k ≤ 240 → j < n → f_X12_feed_62 n (nI s.1) s.2 v1 v2 v3 v4 v5 (nI k) = some (nI (ptF (wb v1 v2 v3 v4 v5) j k s).1, nI (ptF (wb v1 v2 v3 v4 v5) j k s).1, (ptF (wb v1 v2 v3 v4 v5) j k s).2)
  | 0, k, n + 1, s, hk, hc, hn => by
    obtain rfl : k = 20 := by omega
    unfold f_X12_feed_62 b_X12_feed_62 ptF
    rw [if_pos (by decide)]
  | j + 1, k, n + 1, s, hk, hc, hn => by
    have hk2 : ¬ ((20 : Int32) ≤ nI k) := by rw [lit_nI, nI_leI (by omega) (by omega)]; exact Nat.not_le.mpr (by omega)
    unfold ctF at hc
    unfold f_X12_feed_62 b_X12_feed_62 ptF
    rw [if_neg hk2, bY_c _ _ _ _ _ (by omega), ob1_e]
    unfold b_X12_feed_109
    change (if wb v1 v2 v3 v4 v5 k = nI 0 then _ else _) = _
    have ih := fY_62 (v1 := v1) (v2 := v2) (v3 := v3) (v4 := v4) (v5 := v5) j (k + 1) n (p1 (wb v1 v2 v3 v4 v5 k) s) (by omega) (by rw [p1_1]; omega) (by omega)
    unfold p1 at ih ⊢
    by_cases e : wb v1 v2 v3 v4 v5 k = nI 0
    · rw [if_pos e] at ih ⊢
      simp only [bnd_def]
      rw [show nI k + (1 : Int32) = nI (k + 1) from nI_add k 1, ih, if_pos e]
    · rw [if_neg e] at ih ⊢
      unfold z1 at hc
      rw [if_neg e] at hc
      have hi : inB (nI s.1) 240 = true := inB_nI (by omega)
      simp only [bnd_def]
      rw [hi, gd_true, nI_clamp (by omega), show nI k + (1 : Int32) = nI (k + 1) from nI_add k 1, show nI s.1 + (1 : Int32) = nI (s.1 + 1) from nI_add s.1 1]
      exact ih.trans (by rw [if_neg e])
theorem s_feed {n : Nat} {t u : Nat → Int32} (hn : n ≤ 240) (h : RT n t u) (a b c d e : Int32) : ∃ r n' t' u', f_X11_feed (nI n) t a b c d e = some (r, nI n', t') ∧ f_X12_feed (nI n) u a b c d e = some (r, nI n', u') ∧ n' ≤ 240 ∧ RT n' t' u' := by
  have ha := nz_le a; have hb := nz_le b; have hc := nz_le c; have hd := nz_le d; have he := nz_le e
  have hm : f_X12_feed (nI n) u a b c d e = _ := fY_6 (sz := nI n) (t := u) (v1 := a) (v2 := b) (v3 := c) (v4 := d) (v5 := e) 20 0 0 fu (by omega) (by omega) (by have := fu_le; omega)
  rw [ct_20, Nat.zero_add, nI_add] at hm
  simp (disch := omega) only [lit_nI, nI_leI] at hm
  have hx : f_X11_feed (nI n) t a b c d e = b_X11_feed_0 (nI n) t a b c d e := rfl
  unfold b_X11_feed_0 at hx
  simp only [bO_c, ob1_e, bnd_def, nI_add] at hx
  simp (disch := omega) only [lit_nI, nI_leI] at hx
  by_cases q : n + (nz a + nz b + nz c + nz d + nz e) ≤ 240
  · rw [if_pos q] at hx hm
    rw [show nI n = nI (n, t).1 from rfl] at hx
    have p1 := pU_c a (n, t) (by show n + _ ≤ _; omega)
    have p2 := pU_c b (pt a (n, t)) (by rw [pt_1]; show n + _ + _ ≤ _; omega)
    have p3 := pU_c c (pt b (pt a (n, t))) (by rw [pt_1, pt_1]; show n + _ + _ + _ ≤ _; omega)
    have p4 := pU_c d (pt c (pt b (pt a (n, t)))) (by rw [pt_1, pt_1, pt_1]; show n + _ + _ + _ + _ ≤ _; omega)
    have p5 := pU_c e (pt d (pt c (pt b (pt a (n, t))))) (by rw [pt_1, pt_1, pt_1, pt_1]; show n + _ + _ + _ + _ + _ ≤ _; omega)
    have m1 : f_X12_feed (nI n) u a b c d e = _ := hm.trans (fY_62 (v1 := a) (v2 := b) (v3 := c) (v4 := d) (v5 := e) 20 0 fu (n, u) (by omega) (by rw [ct_20]; show n + _ ≤ _; omega) (by have := fu_le; omega))
    rw [pt_20] at m1
    have x1 : f_X11_feed (nI n) t a b c d e = some (nI (pt e (pt d (pt c (pt b (pt a (n, t)))))).1, nI (pt e (pt d (pt c (pt b (pt a (n, t)))))).1, (pt e (pt d (pt c (pt b (pt a (n, t)))))).2) := by
      refine hx.trans ?_
      rw [show f_X10_put (nI (n, t).1) t a = _ from p1, ob2_e, p2, ob2_e, p3, ob2_e, p4, ob2_e, p5, ob2_e]
    obtain ⟨e1, r1⟩ := pt_R (w := a) h
    have l1 := pt_1 a (n, t)
    generalize pt a (n, t) = x1t at *
    generalize pt a (n, u) = y1t at *
    obtain ⟨k1, t1⟩ := x1t
    obtain ⟨k1', u1⟩ := y1t
    obtain rfl : k1 = k1' := e1
    obtain ⟨e2, r2⟩ := pt_R (w := b) r1
    have l2 := pt_1 b (k1, t1)
    simp only at e2 r2
    generalize pt b (k1, t1) = x2t at *
    generalize pt b (k1, u1) = y2t at *
    obtain ⟨k2, t2⟩ := x2t
    obtain ⟨k2', u2⟩ := y2t
    obtain rfl : k2 = k2' := e2
    obtain ⟨e3, r3⟩ := pt_R (w := c) r2
    have l3 := pt_1 c (k2, t2)
    simp only at e3 r3
    generalize pt c (k2, t2) = x3t at *
    generalize pt c (k2, u2) = y3t at *
    obtain ⟨k3, t3⟩ := x3t
    obtain ⟨k3', u3⟩ := y3t
    obtain rfl : k3 = k3' := e3
    obtain ⟨e4, r4⟩ := pt_R (w := d) r3
    have l4 := pt_1 d (k3, t3)
    simp only at e4 r4
    generalize pt d (k3, t3) = x4t at *
    generalize pt d (k3, u3) = y4t at *
    obtain ⟨k4, t4⟩ := x4t
    obtain ⟨k4', u4⟩ := y4t
    obtain rfl : k4 = k4' := e4
    obtain ⟨e5, r5⟩ := pt_R (w := e) r4
    have l5 := pt_1 e (k4, t4)
    simp only at e5 r5
    generalize pt e (k4, t4) = x5t at *
    generalize pt e (k4, u4) = y5t at *
    obtain ⟨k5, t5⟩ := x5t
    obtain ⟨k5', u5⟩ := y5t
    obtain rfl : k5 = k5' := e5
    simp only at l1 l2 l3 l4 l5
    exact ⟨nI k5, k5, t5, u5, x1, m1, by omega, r5⟩
  · rw [if_neg q] at hx hm
    exact ⟨_, n, t, u, hx, hm, hn, h⟩
theorem s_end {n : Nat} {t u : Nat → Int32} (hn : n ≤ 240) (h : RT n t u) (a : Int32) : ∃ r n', f_X11_end (nI n) a = some (r, nI n') ∧ f_X12_end (nI n) a = some (r, nI n') ∧ n' ≤ 240 ∧ RT n' t u := by
  rcases rng a n (by omega) with ⟨j, hj, rfl⟩ | q | ⟨q1, q2, q3⟩
  · refine ⟨nI 1, j, ?_, ?_, by omega, fun i hi => h i (by omega)⟩
    · simp (disch := omega) only [f_X11_end, b_X11_end_0, neg_nI, lit_nI, nI_add, pk_mul, pk_sub, nI_clamp, inB_nI, gd_true, bnd_def, nI_leI, nI_ltI, nI_eq, nI_mI, mI_nI, nle_T, nle_F, nlt_T, nlt_F, neq_T, neq_F, ↓reduceIte, Nat.add_zero, Nat.zero_add, Nat.mul_zero, Nat.reduceAdd, Nat.reduceMul, Nat.reduceSub]
    · simp (disch := omega) only [f_X12_end, b_X12_end_0, neg_nI, lit_nI, nI_add, pk_mul, pk_sub, nI_clamp, inB_nI, gd_true, bnd_def, nI_leI, nI_ltI, nI_eq, nI_mI, mI_nI, nle_T, nle_F, nlt_T, nlt_F, neq_T, neq_F, ↓reduceIte, Nat.add_zero, Nat.zero_add, Nat.mul_zero, Nat.reduceAdd, Nat.reduceMul, Nat.reduceSub]
  · refine ⟨nI 0, n, ?_, ?_, hn, h⟩
    · simp only [f_X11_end, b_X11_end_0, lit_nI, if_pos q]
    · simp only [f_X12_end, b_X12_end_0, lit_nI, if_pos q]
  · refine ⟨nI 0, n, ?_, ?_, hn, h⟩
    · simp only [f_X11_end, b_X11_end_0, lit_nI, if_neg q1, if_neg q3]
    · simp only [f_X12_end, b_X12_end_0, lit_nI, if_neg q1, if_neg q3]
