/-! the items of a clause of a peace -/
def PLl : List Nat := [112, 107, 0, 0, 104, 102, 115, 97, 119, 110, 0, 0]
def PMl : List Nat := [9, 99, 0, 0, 1, 9, 9, 3, 9, 60, 0, 0]
def PUl : List Nat := [4, 20, 0, 0, 0, 4, 3, 0, 3, 10, 0, 0]
def TB (plT pmT puT : Nat → Int32) : Prop := ∀ i, i < 12 → plT i = nI (PLl.getD i 0) ∧ pmT i = nI (PMl.getD i 0) ∧ puT i = nI (PUl.getD i 0)
def mny (kd : Nat) : Nat := if kd = 1 then 4 else 2
def chr (kd : Nat) : Nat := if kd = 0 then 115 else if kd = 1 then 103 else 109
def hg (kd w : Nat) : Nat := PMl.getD (kd * 4 + w) 0
def us (kd w : Nat) : Nat := PUl.getD (kd * 4 + w) 0
def pc (m : Nat) : Nat := m % 2 + m / 2 % 2 + m / 4 % 2 + m / 8 % 2
theorem k3 {kd : Nat} (h : kd < 3) : kd = 0 ∨ kd = 1 ∨ kd = 2 := by omega
theorem hb_c : ∀ m, m < 16 → ∀ w, w < 4 → ((nI m >>> (nI w &&& nI 31)) &&& nI 1) = (if m.testBit w = true then nI 1 else nI 0) := by decide +kernel
theorem or_c : ∀ m, m < 16 → ∀ w, w < 4 → nI m ||| (nI 1 <<< (nI w &&& nI 31)) = nI (m ||| 2 ^ w) := by decide +kernel
theorem pc_c : ∀ m, m < 16 → ∀ w, w < 4 → m.testBit w = false → pc (m ||| 2 ^ w) = pc m + 1 ∧ m ||| 2 ^ w < 16 := by decide +kernel
theorem pc_4 : ∀ m, m < 16 → pc m = 4 → ∀ w, w < 4 → m.testBit w = true := by decide +kernel
theorem pc_le : ∀ m, m < 16 → pc m ≤ 4 := by decide +kernel
theorem hg_le : ∀ kd, kd < 3 → ∀ w, w < 4 → hg kd w ≤ 99 := by decide +kernel
theorem us_le : ∀ kd, kd < 3 → ∀ w, w < mny kd → us kd w ≤ hg kd w := by decide +kernel
theorem mny_le (kd : Nat) : mny kd ≤ 4 := by unfold mny; split <;> omega
theorem has_c {m w : Nat} (hm : m < 16) (hw : w < 4) : f_X12_has (nI m) (nI w) = some (if m.testBit w = true then nI 1 else nI 0) := by
  unfold f_X12_has b_X12_has_0
  simp only [lit_nI]
  rw [hb_c m hm w hw]
  by_cases q : m.testBit w = true
  · rw [if_pos q, if_pos rfl]
  · rw [if_neg q, if_neg (by decide)]
theorem hi_c : ∀ kd, kd < 3 → ∀ w, w < mny kd → f_X12_highest (nI (chr kd)) (nI w) = some (nI (hg kd w)) := by
  unfold f_X12_highest b_X12_highest_0; decide +kernel
theorem uu_c : ∀ kd, kd < 3 → ∀ w, w < mny kd → f_X12_usual (nI (chr kd)) (nI w) = some (nI (us kd w)) := by
  unfold f_X12_usual b_X12_usual_0; decide +kernel
theorem io_m : ∀ kd, kd < 3 → f_X12_itemOf (nI (chr kd)) (mI 1) = some (mI 1) := by
  unfold f_X12_itemOf b_X12_itemOf_0; decide +kernel
theorem io_s : ∀ kd, kd < 3 → f_X12_itemOf (nI (chr kd)) (nI 59) = some (mI 1) := by
  unfold f_X12_itemOf b_X12_itemOf_0; decide +kernel
section IT
variable {plT pmT puT : Nat → Int32}
theorem io_c (tb : TB plT pmT puT) {kd b : Nat} (hk : kd < 3) (b0 : 0 < b) (b1 : b ≤ 255) : ∃ r, f_X6_itemOf plT (nI kd) (nI b) = some r ∧ f_X12_itemOf (nI (chr kd)) (nI b) = some r ∧ (r = mI 1 ∨ ∃ w, w < mny kd ∧ r = nI w) := by
  have p0 : plT 0 = nI 112 := (tb 0 (by omega)).1
  have p1 : plT 1 = nI 107 := (tb 1 (by omega)).1
  have p2 : plT 2 = nI 0 := (tb 2 (by omega)).1
  have p3 : plT 3 = nI 0 := (tb 3 (by omega)).1
  have p4 : plT 4 = nI 104 := (tb 4 (by omega)).1
  have p5 : plT 5 = nI 102 := (tb 5 (by omega)).1
  have p6 : plT 6 = nI 115 := (tb 6 (by omega)).1
  have p7 : plT 7 = nI 97 := (tb 7 (by omega)).1
  have p8 : plT 8 = nI 119 := (tb 8 (by omega)).1
  have p9 : plT 9 = nI 110 := (tb 9 (by omega)).1
  have p10 : plT 10 = nI 0 := (tb 10 (by omega)).1
  have p11 : plT 11 = nI 0 := (tb 11 (by omega)).1

  obtain ⟨k, ef⟩ : ∃ k, fu = k + 1 + 1 + 1 + 1 + 1 := ⟨fu - 5, by have := fu_le; omega⟩
  rcases k3 hk with hk0 | hk0 | hk0
  · subst hk0
    by_cases q0 : b = 112
    · subst q0
      refine ⟨nI 0, ?_, ?_, Or.inr ⟨0, by decide, rfl⟩⟩
      · simp (disch := omega) only [f_X6_itemOf, b_X6_itemOf_0, ef, f_X6_itemOf_2, b_X6_itemOf_2, p0, p1, p2, p3, p4, p5, p6, p7, p8, p9, p10, p11, neg_nI, lit_nI, nI_add, pk_mul, pk_sub, nI_clamp, inB_nI, gd_true, bnd_def, nI_leI, nI_ltI, nI_eq, nI_mI, mI_nI, nle_T, nle_F, nlt_T, nlt_F, neq_T, neq_F, ↓reduceIte, Nat.add_zero, Nat.zero_add, Nat.mul_zero, Nat.reduceAdd, Nat.reduceMul, Nat.reduceSub, ob1_e, ob2_e, ob3_e, ob4_e, ob6_e]
      · unfold f_X12_itemOf b_X12_itemOf_0; decide +kernel
    by_cases q1 : b = 107
    · subst q1
      refine ⟨nI 1, ?_, ?_, Or.inr ⟨1, by decide, rfl⟩⟩
      · simp (disch := omega) only [f_X6_itemOf, b_X6_itemOf_0, ef, f_X6_itemOf_2, b_X6_itemOf_2, p0, p1, p2, p3, p4, p5, p6, p7, p8, p9, p10, p11, neg_nI, lit_nI, nI_add, pk_mul, pk_sub, nI_clamp, inB_nI, gd_true, bnd_def, nI_leI, nI_ltI, nI_eq, nI_mI, mI_nI, nle_T, nle_F, nlt_T, nlt_F, neq_T, neq_F, ↓reduceIte, Nat.add_zero, Nat.zero_add, Nat.mul_zero, Nat.reduceAdd, Nat.reduceMul, Nat.reduceSub, ob1_e, ob2_e, ob3_e, ob4_e, ob6_e]
      · unfold f_X12_itemOf b_X12_itemOf_0; decide +kernel
    refine ⟨mI 1, ?_, ?_, Or.inl rfl⟩
    · simp (disch := omega) only [f_X6_itemOf, b_X6_itemOf_0, ef, f_X6_itemOf_2, b_X6_itemOf_2, p0, p1, p2, p3, p4, p5, p6, p7, p8, p9, p10, p11, neg_nI, lit_nI, nI_add, pk_mul, pk_sub, nI_clamp, inB_nI, gd_true, bnd_def, nI_leI, nI_ltI, nI_eq, nI_mI, mI_nI, nle_T, nle_F, nlt_T, nlt_F, neq_T, neq_F, ↓reduceIte, Nat.add_zero, Nat.zero_add, Nat.mul_zero, Nat.reduceAdd, Nat.reduceMul, Nat.reduceSub, ob1_e, ob2_e, ob3_e, ob4_e, ob6_e]
    · simp (disch := omega) only [f_X12_itemOf, b_X12_itemOf_0, show chr 0 = 115 from rfl, neg_nI, lit_nI, nI_add, pk_mul, pk_sub, nI_clamp, inB_nI, gd_true, bnd_def, nI_leI, nI_ltI, nI_eq, nI_mI, mI_nI, nle_T, nle_F, nlt_T, nlt_F, neq_T, neq_F, ↓reduceIte, Nat.add_zero, Nat.zero_add, Nat.mul_zero, Nat.reduceAdd, Nat.reduceMul, Nat.reduceSub, ob1_e, ob2_e, ob3_e, ob4_e, ob6_e]
  · subst hk0
    by_cases q0 : b = 104
    · subst q0
      refine ⟨nI 0, ?_, ?_, Or.inr ⟨0, by decide, rfl⟩⟩
      · simp (disch := omega) only [f_X6_itemOf, b_X6_itemOf_0, ef, f_X6_itemOf_2, b_X6_itemOf_2, p0, p1, p2, p3, p4, p5, p6, p7, p8, p9, p10, p11, neg_nI, lit_nI, nI_add, pk_mul, pk_sub, nI_clamp, inB_nI, gd_true, bnd_def, nI_leI, nI_ltI, nI_eq, nI_mI, mI_nI, nle_T, nle_F, nlt_T, nlt_F, neq_T, neq_F, ↓reduceIte, Nat.add_zero, Nat.zero_add, Nat.mul_zero, Nat.reduceAdd, Nat.reduceMul, Nat.reduceSub, ob1_e, ob2_e, ob3_e, ob4_e, ob6_e]
      · unfold f_X12_itemOf b_X12_itemOf_0; decide +kernel
    by_cases q1 : b = 102
    · subst q1
      refine ⟨nI 1, ?_, ?_, Or.inr ⟨1, by decide, rfl⟩⟩
      · simp (disch := omega) only [f_X6_itemOf, b_X6_itemOf_0, ef, f_X6_itemOf_2, b_X6_itemOf_2, p0, p1, p2, p3, p4, p5, p6, p7, p8, p9, p10, p11, neg_nI, lit_nI, nI_add, pk_mul, pk_sub, nI_clamp, inB_nI, gd_true, bnd_def, nI_leI, nI_ltI, nI_eq, nI_mI, mI_nI, nle_T, nle_F, nlt_T, nlt_F, neq_T, neq_F, ↓reduceIte, Nat.add_zero, Nat.zero_add, Nat.mul_zero, Nat.reduceAdd, Nat.reduceMul, Nat.reduceSub, ob1_e, ob2_e, ob3_e, ob4_e, ob6_e]
      · unfold f_X12_itemOf b_X12_itemOf_0; decide +kernel
    by_cases q2 : b = 115
    · subst q2
      refine ⟨nI 2, ?_, ?_, Or.inr ⟨2, by decide, rfl⟩⟩
      · simp (disch := omega) only [f_X6_itemOf, b_X6_itemOf_0, ef, f_X6_itemOf_2, b_X6_itemOf_2, p0, p1, p2, p3, p4, p5, p6, p7, p8, p9, p10, p11, neg_nI, lit_nI, nI_add, pk_mul, pk_sub, nI_clamp, inB_nI, gd_true, bnd_def, nI_leI, nI_ltI, nI_eq, nI_mI, mI_nI, nle_T, nle_F, nlt_T, nlt_F, neq_T, neq_F, ↓reduceIte, Nat.add_zero, Nat.zero_add, Nat.mul_zero, Nat.reduceAdd, Nat.reduceMul, Nat.reduceSub, ob1_e, ob2_e, ob3_e, ob4_e, ob6_e]
      · unfold f_X12_itemOf b_X12_itemOf_0; decide +kernel
    by_cases q3 : b = 97
    · subst q3
      refine ⟨nI 3, ?_, ?_, Or.inr ⟨3, by decide, rfl⟩⟩
      · simp (disch := omega) only [f_X6_itemOf, b_X6_itemOf_0, ef, f_X6_itemOf_2, b_X6_itemOf_2, p0, p1, p2, p3, p4, p5, p6, p7, p8, p9, p10, p11, neg_nI, lit_nI, nI_add, pk_mul, pk_sub, nI_clamp, inB_nI, gd_true, bnd_def, nI_leI, nI_ltI, nI_eq, nI_mI, mI_nI, nle_T, nle_F, nlt_T, nlt_F, neq_T, neq_F, ↓reduceIte, Nat.add_zero, Nat.zero_add, Nat.mul_zero, Nat.reduceAdd, Nat.reduceMul, Nat.reduceSub, ob1_e, ob2_e, ob3_e, ob4_e, ob6_e]
      · unfold f_X12_itemOf b_X12_itemOf_0; decide +kernel
    refine ⟨mI 1, ?_, ?_, Or.inl rfl⟩
    · simp (disch := omega) only [f_X6_itemOf, b_X6_itemOf_0, ef, f_X6_itemOf_2, b_X6_itemOf_2, p0, p1, p2, p3, p4, p5, p6, p7, p8, p9, p10, p11, neg_nI, lit_nI, nI_add, pk_mul, pk_sub, nI_clamp, inB_nI, gd_true, bnd_def, nI_leI, nI_ltI, nI_eq, nI_mI, mI_nI, nle_T, nle_F, nlt_T, nlt_F, neq_T, neq_F, ↓reduceIte, Nat.add_zero, Nat.zero_add, Nat.mul_zero, Nat.reduceAdd, Nat.reduceMul, Nat.reduceSub, ob1_e, ob2_e, ob3_e, ob4_e, ob6_e]
    · simp (disch := omega) only [f_X12_itemOf, b_X12_itemOf_0, show chr 1 = 103 from rfl, neg_nI, lit_nI, nI_add, pk_mul, pk_sub, nI_clamp, inB_nI, gd_true, bnd_def, nI_leI, nI_ltI, nI_eq, nI_mI, mI_nI, nle_T, nle_F, nlt_T, nlt_F, neq_T, neq_F, ↓reduceIte, Nat.add_zero, Nat.zero_add, Nat.mul_zero, Nat.reduceAdd, Nat.reduceMul, Nat.reduceSub, ob1_e, ob2_e, ob3_e, ob4_e, ob6_e]
  · subst hk0
    by_cases q0 : b = 119
    · subst q0
      refine ⟨nI 0, ?_, ?_, Or.inr ⟨0, by decide, rfl⟩⟩
      · simp (disch := omega) only [f_X6_itemOf, b_X6_itemOf_0, ef, f_X6_itemOf_2, b_X6_itemOf_2, p0, p1, p2, p3, p4, p5, p6, p7, p8, p9, p10, p11, neg_nI, lit_nI, nI_add, pk_mul, pk_sub, nI_clamp, inB_nI, gd_true, bnd_def, nI_leI, nI_ltI, nI_eq, nI_mI, mI_nI, nle_T, nle_F, nlt_T, nlt_F, neq_T, neq_F, ↓reduceIte, Nat.add_zero, Nat.zero_add, Nat.mul_zero, Nat.reduceAdd, Nat.reduceMul, Nat.reduceSub, ob1_e, ob2_e, ob3_e, ob4_e, ob6_e]
      · unfold f_X12_itemOf b_X12_itemOf_0; decide +kernel
    by_cases q1 : b = 110
    · subst q1
      refine ⟨nI 1, ?_, ?_, Or.inr ⟨1, by decide, rfl⟩⟩
      · simp (disch := omega) only [f_X6_itemOf, b_X6_itemOf_0, ef, f_X6_itemOf_2, b_X6_itemOf_2, p0, p1, p2, p3, p4, p5, p6, p7, p8, p9, p10, p11, neg_nI, lit_nI, nI_add, pk_mul, pk_sub, nI_clamp, inB_nI, gd_true, bnd_def, nI_leI, nI_ltI, nI_eq, nI_mI, mI_nI, nle_T, nle_F, nlt_T, nlt_F, neq_T, neq_F, ↓reduceIte, Nat.add_zero, Nat.zero_add, Nat.mul_zero, Nat.reduceAdd, Nat.reduceMul, Nat.reduceSub, ob1_e, ob2_e, ob3_e, ob4_e, ob6_e]
      · unfold f_X12_itemOf b_X12_itemOf_0; decide +kernel
    refine ⟨mI 1, ?_, ?_, Or.inl rfl⟩
    · simp (disch := omega) only [f_X6_itemOf, b_X6_itemOf_0, ef, f_X6_itemOf_2, b_X6_itemOf_2, p0, p1, p2, p3, p4, p5, p6, p7, p8, p9, p10, p11, neg_nI, lit_nI, nI_add, pk_mul, pk_sub, nI_clamp, inB_nI, gd_true, bnd_def, nI_leI, nI_ltI, nI_eq, nI_mI, mI_nI, nle_T, nle_F, nlt_T, nlt_F, neq_T, neq_F, ↓reduceIte, Nat.add_zero, Nat.zero_add, Nat.mul_zero, Nat.reduceAdd, Nat.reduceMul, Nat.reduceSub, ob1_e, ob2_e, ob3_e, ob4_e, ob6_e]
    · simp (disch := omega) only [f_X12_itemOf, b_X12_itemOf_0, show chr 2 = 109 from rfl, neg_nI, lit_nI, nI_add, pk_mul, pk_sub, nI_clamp, inB_nI, gd_true, bnd_def, nI_leI, nI_ltI, nI_eq, nI_mI, mI_nI, nle_T, nle_F, nlt_T, nlt_F, neq_T, neq_F, ↓reduceIte, Nat.add_zero, Nat.zero_add, Nat.mul_zero, Nat.reduceAdd, Nat.reduceMul, Nat.reduceSub, ob1_e, ob2_e, ob3_e, ob4_e, ob6_e]

end IT
