/-! what a row of tokens is worth -/
def Rd (f : Tok → Int32) (r : Nat → Int32) : Nat → List Tok → Prop
  | _, [] => True
  | i, x :: l => r i = f x ∧ Rd f r (i + 1) l
theorem Rd_app {f : Tok → Int32} {r : Nat → Int32} : ∀ (A B : List Tok) (i : Nat), Rd f r i (A ++ B) → Rd f r i A ∧ Rd f r (i + A.length) B
  | [], B, i, h => ⟨trivial, h⟩
  | x :: A, B, i, h => by
    obtain ⟨h1, h2⟩ := h
    obtain ⟨h3, h4⟩ := Rd_app A B (i + 1) h2
    refine ⟨⟨h1, h3⟩, ?_⟩
    rw [show i + (x :: A).length = i + 1 + A.length by show i + (A.length + 1) = _; omega]
    exact h4
theorem Rd_ap (f : Tok → Int32) : ∀ (L : List Tok) (r : Nat → Int32) (o : Nat), Rd f (ap f r o L) o L
  | [], r, o => trivial
  | x :: L, r, o => by
    refine ⟨?_, Rd_ap f L (upd r o (f x)) (o + 1)⟩
    show ap f (upd r o (f x)) (o + 1) L o = f x
    rw [ap_out f L _ _ (by omega), upd_y rfl]
theorem Rd_cong {f : Tok → Int32} {r r' : Nat → Int32} : ∀ (L : List Tok) (i : Nat), Rd f r i L → (∀ j, i ≤ j → j < i + L.length → r' j = r j) → Rd f r' i L
  | [], _, _, _ => trivial
  | x :: L, i, h, hr => by
    have hl : (x :: L).length = L.length + 1 := rfl
    exact ⟨by rw [hr i (by omega) (by omega)]; exact h.1, Rd_cong L (i + 1) h.2 (fun j a b => hr j (by omega) (by omega))⟩
theorem mil_T (v : Int64) : b_X2_combine_162 v = f_X12_bounded v := by
  have e1 : (1000000 : Int64).toInt = 1000000 := by decide
  have e2 : (-1000000 : Int64).toInt = -1000000 := by decide
  have hl : ∀ a b : Int64, a < b ↔ a.toInt < b.toInt := fun a b => Int64.lt_iff_toInt_lt
  unfold b_X2_combine_162 f_X12_bounded b_X12_bounded_0 mnL mxL lg_cmp
  simp only [bnd_def]
  by_cases h1 : v < (1000000 : Int64)
  · have n1 : ¬ ((1000000 : Int64) < v) := by rw [hl] at h1 ⊢; omega
    have n2 : ¬ (v = (1000000 : Int64)) := by intro e; rw [hl, e] at h1; omega
    by_cases h2 : v < (-1000000 : Int64)
    · have n3 : ¬ ((-1000000 : Int64) < v) := by rw [hl] at h2 ⊢; omega
      have n4 : ¬ (v = (-1000000 : Int64)) := by intro e; rw [hl, e] at h2; omega
      rw [if_neg n1, if_neg n2, if_pos (by decide), if_neg n3, if_neg n4, if_neg (by decide), if_pos h1, if_pos h2]
      rfl
    · rw [if_neg n1, if_neg n2, if_pos (by decide), if_pos h1, if_neg h2]
      by_cases h3 : (-1000000 : Int64) < v
      · rw [if_pos h3, if_pos (by decide)]
      · have h4 : v = (-1000000 : Int64) := by
          apply Int64.toInt_inj.mp
          rw [hl] at h2 h3
          omega
        rw [if_neg h3, if_pos h4, if_pos (by decide)]
  · have h2 : ¬ ((1000000 : Int64) < (-1000000 : Int64)) := by decide
    rw [if_neg h1, if_neg h2]
    by_cases h3 : (1000000 : Int64) < v
    · rw [if_pos h3, if_neg (by decide)]
      rfl
    · have h4 : v = (1000000 : Int64) := by
        apply Int64.toInt_inj.mp
        rw [hl] at h1 h3
        omega
      subst h4
      rfl
theorem mI_eq {a b : Nat} (h : a < 2 ^ 30 ∧ b < 2 ^ 30) : (mI a = mI b) = (a = b) := by
  apply propext
  constructor
  · intro e
    have h1 := congrArg Int32.toInt e
    rw [mI_toInt (by omega), mI_toInt (by omega)] at h1
    omega
  · intro e; rw [e]
theorem nI_mIl {n k : Nat} (h : n < 2 ^ 30 ∧ 0 < k ∧ k < 2 ^ 30) : (nI n = mI k) = False := nI_mI (by omega)
theorem comb_c (k : Nat) (h : 2 ≤ k ∧ k ≤ 11 ∧ k ≠ 9) (a b : Int64) : ∃ r, f_X2_combine (cs (k, 0)) a b = some r ∧ f_X12_worked (nI k) a b = some r := by
  have hb : ∀ v : Int64, ∃ r, f_X12_bounded v = some r := fun v => ⟨_, rfl⟩
  have hk : k = 2 ∨ k = 3 ∨ k = 4 ∨ k = 5 ∨ k = 6 ∨ k = 7 ∨ k = 8 ∨ k = 10 ∨ k = 11 := by omega
  rcases hk with rfl | rfl | rfl | rfl | rfl | rfl | rfl | rfl | rfl
  · obtain ⟨r, er⟩ := hb (a + b)
    refine ⟨r, ?_, ?_⟩
    · rw [show cs (2, 0) = mI 2 from rfl, ← er, ← mil_T]
      simp (disch := omega) only [f_X2_combine, b_X2_combine_0, b_X2_combine_156, b_X2_combine_85, mI_eq, neg_nI, lit_nI, nI_add, pk_mul, pk_sub, nI_clamp, inB_nI, gd_true, bnd_def, nI_leI, nI_ltI, nI_eq, nI_mI, mI_nI, nle_T, nle_F, nlt_T, nlt_F, neq_T, neq_F, ↓reduceIte, Nat.add_zero, Nat.zero_add, Nat.mul_zero, Nat.reduceAdd, Nat.reduceMul, Nat.reduceSub, ob1_e, ob2_e, ob3_e, ob4_e, ob6_e]
    · simp (disch := omega) only [f_X12_worked, b_X12_worked_0, er, neg_nI, lit_nI, nI_add, pk_mul, pk_sub, nI_clamp, inB_nI, gd_true, bnd_def, nI_leI, nI_ltI, nI_eq, nI_mI, mI_nI, nle_T, nle_F, nlt_T, nlt_F, neq_T, neq_F, ↓reduceIte, Nat.add_zero, Nat.zero_add, Nat.mul_zero, Nat.reduceAdd, Nat.reduceMul, Nat.reduceSub, ob1_e, ob2_e, ob3_e, ob4_e, ob6_e]
  · obtain ⟨r, er⟩ := hb (a - b)
    refine ⟨r, ?_, ?_⟩
    · rw [show cs (3, 0) = mI 3 from rfl, ← er, ← mil_T]
      simp (disch := omega) only [f_X2_combine, b_X2_combine_0, b_X2_combine_156, b_X2_combine_85, mI_eq, neg_nI, lit_nI, nI_add, pk_mul, pk_sub, nI_clamp, inB_nI, gd_true, bnd_def, nI_leI, nI_ltI, nI_eq, nI_mI, mI_nI, nle_T, nle_F, nlt_T, nlt_F, neq_T, neq_F, ↓reduceIte, Nat.add_zero, Nat.zero_add, Nat.mul_zero, Nat.reduceAdd, Nat.reduceMul, Nat.reduceSub, ob1_e, ob2_e, ob3_e, ob4_e, ob6_e]
    · simp (disch := omega) only [f_X12_worked, b_X12_worked_0, er, neg_nI, lit_nI, nI_add, pk_mul, pk_sub, nI_clamp, inB_nI, gd_true, bnd_def, nI_leI, nI_ltI, nI_eq, nI_mI, mI_nI, nle_T, nle_F, nlt_T, nlt_F, neq_T, neq_F, ↓reduceIte, Nat.add_zero, Nat.zero_add, Nat.mul_zero, Nat.reduceAdd, Nat.reduceMul, Nat.reduceSub, ob1_e, ob2_e, ob3_e, ob4_e, ob6_e]
  · obtain ⟨r, er⟩ := hb (a * b)
    refine ⟨r, ?_, ?_⟩
    · rw [show cs (4, 0) = mI 4 from rfl, ← er, ← mil_T]
      simp (disch := omega) only [f_X2_combine, b_X2_combine_0, b_X2_combine_156, b_X2_combine_85, mI_eq, neg_nI, lit_nI, nI_add, pk_mul, pk_sub, nI_clamp, inB_nI, gd_true, bnd_def, nI_leI, nI_ltI, nI_eq, nI_mI, mI_nI, nle_T, nle_F, nlt_T, nlt_F, neq_T, neq_F, ↓reduceIte, Nat.add_zero, Nat.zero_add, Nat.mul_zero, Nat.reduceAdd, Nat.reduceMul, Nat.reduceSub, ob1_e, ob2_e, ob3_e, ob4_e, ob6_e]
    · simp (disch := omega) only [f_X12_worked, b_X12_worked_0, er, neg_nI, lit_nI, nI_add, pk_mul, pk_sub, nI_clamp, inB_nI, gd_true, bnd_def, nI_leI, nI_ltI, nI_eq, nI_mI, mI_nI, nle_T, nle_F, nlt_T, nlt_F, neq_T, neq_F, ↓reduceIte, Nat.add_zero, Nat.zero_add, Nat.mul_zero, Nat.reduceAdd, Nat.reduceMul, Nat.reduceSub, ob1_e, ob2_e, ob3_e, ob4_e, ob6_e]
  · by_cases q : lg_cmp b (0 : Int64) = nI 0
    · refine ⟨nI 0, ?_, ?_⟩
      · have hz : b_X2_combine_162 (0 : Int64) = some (nI 0) := by
          unfold b_X2_combine_162
          rw [if_pos (by decide), if_pos (by decide)]
          rfl
        rw [show cs (5, 0) = mI 5 from rfl, ← hz]
        simp (disch := omega) only [f_X2_combine, b_X2_combine_0, b_X2_combine_85, mI_eq, q, neg_nI, lit_nI, nI_add, pk_mul, pk_sub, nI_clamp, inB_nI, gd_true, bnd_def, nI_leI, nI_ltI, nI_eq, nI_mI, mI_nI, nle_T, nle_F, nlt_T, nlt_F, neq_T, neq_F, ↓reduceIte, Nat.add_zero, Nat.zero_add, Nat.mul_zero, Nat.reduceAdd, Nat.reduceMul, Nat.reduceSub, ob1_e, ob2_e, ob3_e, ob4_e, ob6_e]
      · simp (disch := omega) only [f_X12_worked, b_X12_worked_0, q, neg_nI, lit_nI, nI_add, pk_mul, pk_sub, nI_clamp, inB_nI, gd_true, bnd_def, nI_leI, nI_ltI, nI_eq, nI_mI, mI_nI, nle_T, nle_F, nlt_T, nlt_F, neq_T, neq_F, ↓reduceIte, Nat.add_zero, Nat.zero_add, Nat.mul_zero, Nat.reduceAdd, Nat.reduceMul, Nat.reduceSub, ob1_e, ob2_e, ob3_e, ob4_e, ob6_e]
    · have nb : nzL b = true := by
        unfold nzL
        apply decide_eq_true
        intro e
        apply q
        rw [e]; decide
      obtain ⟨r, er⟩ := hb (a / b)
      refine ⟨r, ?_, ?_⟩
      · rw [show cs (5, 0) = mI 5 from rfl, ← er, ← mil_T]
        simp (disch := omega) only [f_X2_combine, b_X2_combine_0, b_X2_combine_85, mI_eq, q, nb, neg_nI, lit_nI, nI_add, pk_mul, pk_sub, nI_clamp, inB_nI, gd_true, bnd_def, nI_leI, nI_ltI, nI_eq, nI_mI, mI_nI, nle_T, nle_F, nlt_T, nlt_F, neq_T, neq_F, ↓reduceIte, Nat.add_zero, Nat.zero_add, Nat.mul_zero, Nat.reduceAdd, Nat.reduceMul, Nat.reduceSub, ob1_e, ob2_e, ob3_e, ob4_e, ob6_e]
      · simp (disch := omega) only [f_X12_worked, b_X12_worked_0, q, nb, er, neg_nI, lit_nI, nI_add, pk_mul, pk_sub, nI_clamp, inB_nI, gd_true, bnd_def, nI_leI, nI_ltI, nI_eq, nI_mI, mI_nI, nle_T, nle_F, nlt_T, nlt_F, neq_T, neq_F, ↓reduceIte, Nat.add_zero, Nat.zero_add, Nat.mul_zero, Nat.reduceAdd, Nat.reduceMul, Nat.reduceSub, ob1_e, ob2_e, ob3_e, ob4_e, ob6_e]
  · refine ⟨if lg_cmp a b = nI 0 then nI 1 else nI 0, ?_, ?_⟩
    · rw [show cs (6, 0) = mI 6 from rfl]
      simp (disch := omega) only [f_X2_combine, b_X2_combine_0, b_X2_combine_156, b_X2_combine_85, mI_eq, neg_nI, lit_nI, nI_add, pk_mul, pk_sub, nI_clamp, inB_nI, gd_true, bnd_def, nI_leI, nI_ltI, nI_eq, nI_mI, mI_nI, nle_T, nle_F, nlt_T, nlt_F, neq_T, neq_F, ↓reduceIte, Nat.add_zero, Nat.zero_add, Nat.mul_zero, Nat.reduceAdd, Nat.reduceMul, Nat.reduceSub, ob1_e, ob2_e, ob3_e, ob4_e, ob6_e]
      repeat' split
      all_goals rfl
    · simp (disch := omega) only [f_X12_worked, b_X12_worked_0, b_X12_worked_144, b_X12_worked_156, neg_nI, lit_nI, nI_add, pk_mul, pk_sub, nI_clamp, inB_nI, gd_true, bnd_def, nI_leI, nI_ltI, nI_eq, nI_mI, mI_nI, nle_T, nle_F, nlt_T, nlt_F, neq_T, neq_F, ↓reduceIte, Nat.add_zero, Nat.zero_add, Nat.mul_zero, Nat.reduceAdd, Nat.reduceMul, Nat.reduceSub, ob1_e, ob2_e, ob3_e, ob4_e, ob6_e]
      repeat' split
      all_goals rfl
  · refine ⟨if nI 0 ≤ lg_cmp a b then nI 0 else nI 1, ?_, ?_⟩
    · rw [show cs (7, 0) = mI 7 from rfl]
      simp (disch := omega) only [f_X2_combine, b_X2_combine_0, b_X2_combine_156, b_X2_combine_85, mI_eq, neg_nI, lit_nI, nI_add, pk_mul, pk_sub, nI_clamp, inB_nI, gd_true, bnd_def, nI_leI, nI_ltI, nI_eq, nI_mI, mI_nI, nle_T, nle_F, nlt_T, nlt_F, neq_T, neq_F, ↓reduceIte, Nat.add_zero, Nat.zero_add, Nat.mul_zero, Nat.reduceAdd, Nat.reduceMul, Nat.reduceSub, ob1_e, ob2_e, ob3_e, ob4_e, ob6_e]
      repeat' split
      all_goals rfl
    · simp (disch := omega) only [f_X12_worked, b_X12_worked_0, b_X12_worked_144, b_X12_worked_156, neg_nI, lit_nI, nI_add, pk_mul, pk_sub, nI_clamp, inB_nI, gd_true, bnd_def, nI_leI, nI_ltI, nI_eq, nI_mI, mI_nI, nle_T, nle_F, nlt_T, nlt_F, neq_T, neq_F, ↓reduceIte, Nat.add_zero, Nat.zero_add, Nat.mul_zero, Nat.reduceAdd, Nat.reduceMul, Nat.reduceSub, ob1_e, ob2_e, ob3_e, ob4_e, ob6_e]
      repeat' split
      all_goals rfl
  · refine ⟨if lg_cmp a b ≤ nI 0 then nI 0 else nI 1, ?_, ?_⟩
    · rw [show cs (8, 0) = mI 8 from rfl]
      simp (disch := omega) only [f_X2_combine, b_X2_combine_0, b_X2_combine_156, b_X2_combine_85, mI_eq, neg_nI, lit_nI, nI_add, pk_mul, pk_sub, nI_clamp, inB_nI, gd_true, bnd_def, nI_leI, nI_ltI, nI_eq, nI_mI, mI_nI, nle_T, nle_F, nlt_T, nlt_F, neq_T, neq_F, ↓reduceIte, Nat.add_zero, Nat.zero_add, Nat.mul_zero, Nat.reduceAdd, Nat.reduceMul, Nat.reduceSub, ob1_e, ob2_e, ob3_e, ob4_e, ob6_e]
      repeat' split
      all_goals rfl
    · simp (disch := omega) only [f_X12_worked, b_X12_worked_0, b_X12_worked_144, b_X12_worked_156, neg_nI, lit_nI, nI_add, pk_mul, pk_sub, nI_clamp, inB_nI, gd_true, bnd_def, nI_leI, nI_ltI, nI_eq, nI_mI, mI_nI, nle_T, nle_F, nlt_T, nlt_F, neq_T, neq_F, ↓reduceIte, Nat.add_zero, Nat.zero_add, Nat.mul_zero, Nat.reduceAdd, Nat.reduceMul, Nat.reduceSub, ob1_e, ob2_e, ob3_e, ob4_e, ob6_e]
      repeat' split
      all_goals rfl
  · refine ⟨if lg_cmp a (0 : Int64) = nI 0 then nI 0 else if lg_cmp b (0 : Int64) = nI 0 then nI 0 else nI 1, ?_, ?_⟩
    · rw [show cs (10, 0) = mI 9 from rfl]
      simp (disch := omega) only [f_X2_combine, b_X2_combine_0, b_X2_combine_156, b_X2_combine_85, mI_eq, neg_nI, lit_nI, nI_add, pk_mul, pk_sub, nI_clamp, inB_nI, gd_true, bnd_def, nI_leI, nI_ltI, nI_eq, nI_mI, mI_nI, nle_T, nle_F, nlt_T, nlt_F, neq_T, neq_F, ↓reduceIte, Nat.add_zero, Nat.zero_add, Nat.mul_zero, Nat.reduceAdd, Nat.reduceMul, Nat.reduceSub, ob1_e, ob2_e, ob3_e, ob4_e, ob6_e]
      repeat' split
      all_goals rfl
    · simp (disch := omega) only [f_X12_worked, b_X12_worked_0, b_X12_worked_144, b_X12_worked_156, neg_nI, lit_nI, nI_add, pk_mul, pk_sub, nI_clamp, inB_nI, gd_true, bnd_def, nI_leI, nI_ltI, nI_eq, nI_mI, mI_nI, nle_T, nle_F, nlt_T, nlt_F, neq_T, neq_F, ↓reduceIte, Nat.add_zero, Nat.zero_add, Nat.mul_zero, Nat.reduceAdd, Nat.reduceMul, Nat.reduceSub, ob1_e, ob2_e, ob3_e, ob4_e, ob6_e]
      repeat' split
      all_goals rfl
  · refine ⟨if lg_cmp a (0 : Int64) = nI 0 then (if lg_cmp b (0 : Int64) = nI 0 then nI 0 else nI 1) else nI 1, ?_, ?_⟩
    · rw [show cs (11, 0) = mI 10 from rfl]
      simp (disch := omega) only [f_X2_combine, b_X2_combine_0, b_X2_combine_156, b_X2_combine_85, mI_eq, neg_nI, lit_nI, nI_add, pk_mul, pk_sub, nI_clamp, inB_nI, gd_true, bnd_def, nI_leI, nI_ltI, nI_eq, nI_mI, mI_nI, nle_T, nle_F, nlt_T, nlt_F, neq_T, neq_F, ↓reduceIte, Nat.add_zero, Nat.zero_add, Nat.mul_zero, Nat.reduceAdd, Nat.reduceMul, Nat.reduceSub, ob1_e, ob2_e, ob3_e, ob4_e, ob6_e]
      repeat' split
      all_goals rfl
    · simp (disch := omega) only [f_X12_worked, b_X12_worked_0, b_X12_worked_144, b_X12_worked_156, neg_nI, lit_nI, nI_add, pk_mul, pk_sub, nI_clamp, inB_nI, gd_true, bnd_def, nI_leI, nI_ltI, nI_eq, nI_mI, mI_nI, nle_T, nle_F, nlt_T, nlt_F, neq_T, neq_F, ↓reduceIte, Nat.add_zero, Nat.zero_add, Nat.mul_zero, Nat.reduceAdd, Nat.reduceMul, Nat.reduceSub, ob1_e, ob2_e, ob3_e, ob4_e, ob6_e]
      repeat' split
      all_goals rfl
