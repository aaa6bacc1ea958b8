section
/-! what a row of tokens is worth -/
def Rd (f : Tok → Int32) (r : Nat → Int32) : Nat → List Tok → Prop
  | _, [] => True
  | i, x :: l => r i = f x ∧ Rd f r (i + 1) l
theorem Rd_app {f : Tok → Int32} {r : Nat → Int32} : ∀ (A B : List Tok) (i : Nat), Rd f r i (A ++ B) → Rd f r i A ∧ Rd f r (i + A.length) B
  | [], B, i, h => ⟨trivial, h⟩
  | x :: A, B, i, h => by
    obtain ⟨h1, h2⟩ := h
    obtain ⟨h3, h4⟩ := Rd_app A B (i + 1) h2
    refine ⟨⟨h1, h3⟩, ?_⟩
    rw [show i + (x :: A).length = i + 1 + A.length by show i + (A.length + 1) = _; omega]
    exact h4
theorem Rd_ap (f : Tok → Int32) : ∀ (L : List Tok) (r : Nat → Int32) (o : Nat), Rd f (ap f r o L) o L
  | [], r, o => trivial
  | x :: L, r, o => by
    refine ⟨?_, Rd_ap f L (upd r o (f x)) (o + 1)⟩
    show ap f (upd r o (f x)) (o + 1) L o = f x
    rw [ap_out f L _ _ (by omega), upd_y rfl]
theorem Rd_cong {f : Tok → Int32} {r r' : Nat → Int32} : ∀ (L : List Tok) (i : Nat), Rd f r i L → (∀ j, i ≤ j → j < i + L.length → r' j = r j) → Rd f r' i L
  | [], _, _, _ => trivial
  | x :: L, i, h, hr => by
    have hl : (x :: L).length = L.length + 1 := rfl
    exact ⟨by rw [hr i (by omega) (by omega)]; exact h.1, Rd_cong L (i + 1) h.2 (fun j a b => hr j (by omega) (by omega))⟩
theorem mil_T (v : Int64) : b_X2_combine_162 v = f_X12_bounded v := by
  have e1 : (1000000 : Int64).toInt = 1000000 := by decide
  have e2 : (-1000000 : Int64).toInt = -1000000 := by decide
  have hl : ∀ a b : Int64, a < b ↔ a.toInt < b.toInt := fun a b => Int64.lt_iff_toInt_lt
  unfold b_X2_combine_162 f_X12_bounded b_X12_bounded_0 mnL mxL lg_cmp
  simp only [bnd_def]
  by_cases h1 : v < (1000000 : Int64)
  · have n1 : ¬ ((1000000 : Int64) < v) := by rw [hl] at h1 ⊢; omega
    have n2 : ¬ (v = (1000000 : Int64)) := by intro e; rw [hl, e] at h1; omega
    by_cases h2 : v < (-1000000 : Int64)
    · have n3 : ¬ ((-1000000 : Int64) < v) := by rw [hl] at h2 ⊢; omega
      have n4 : ¬ (v = (-1000000 : Int64)) := by intro e; rw [hl, e] at h2; omega
      rw [if_neg n1, if_neg n2, if_pos (by decide), if_neg n3, if_neg n4, if_neg (by decide), if_pos h1, if_pos h2]
      rfl
    · rw [if_neg n1, if_neg n2, if_pos (by decide), if_pos h1, if_neg h2]
      by_cases h3 : (-1000000 : Int64) < v
      · rw [if_pos h3, if_pos (by decide)]
      · have h4 : v = (-1000000 : Int64) := by
          apply Int64.toInt_inj.mp
          rw [hl] at h2 h3
          omega
        rw [if_neg h3, if_pos h4, if_pos (by decide)]
  · have h2 : ¬ ((1000000 : Int64) < (-1000000 : Int64)) := by decide
    rw [if_neg h1, if_neg h2]
    by_cases h3 : (1000000 : Int64) < v
    · rw [if_pos h3, if_neg (by decide)]
      rfl
    · have h4 : v = (1000000 : Int64) := by
        apply Int64.toInt_inj.mp
        rw [hl] at h1 h3
        omega
      subst h4
      rfl
theorem mI_eq {a b : Nat} (h : a < 2 ^ 30 ∧ b < 2 ^ 30) : (mI a = mI b) = (a = b) := by
  apply propext
  constructor
  · intro e
    have h1 := congrArg Int32.toInt e
    rw [mI_toInt (by omega), mI_toInt (by omega)] at h1
    omega
  · intro e; rw [e]
theorem nI_mIl {n k : Nat} (h : n < 2 ^ 30 ∧ 0 < k ∧ k < 2 ^ 30) : (nI n = mI k) = False := nI_mI (by omega)
theorem comb_c (k : Nat) (h : 2 ≤ k ∧ k ≤ 11 ∧ k ≠ 9) (a b : Int64) : ∃ r, f_X2_combine (cs (k, 0)) a b = some r ∧ f_X12_worked (nI k) a b = some r := by
  have hb : ∀ v : Int64, ∃ r, f_X12_bounded v = some r := fun v => ⟨_, rfl⟩
  have hk : k = 2 ∨ k = 3 ∨ k = 4 ∨ k = 5 ∨ k = 6 ∨ k = 7 ∨ k = 8 ∨ k = 10 ∨ k = 11 := by omega
  rcases hk with rfl | rfl | rfl | rfl | rfl | rfl | rfl | rfl | rfl
  · obtain ⟨r, er⟩ := hb (a + b)
    refine ⟨r, ?_, ?_⟩
    · rw [show cs (2, 0) = mI 2 from rfl, ← er, ← mil_T]
      simp (disch := omega) only [f_X2_combine, b_X2_combine_0, b_X2_combine_156, b_X2_combine_85, mI_eq, neg_nI, lit_nI, nI_add, pk_mul, pk_sub, nI_clamp, inB_nI, gd_true, bnd_def, nI_leI, nI_ltI, nI_eq, nI_mI, mI_nI, nle_T, nle_F, nlt_T, nlt_F, neq_T, neq_F, ↓reduceIte, Nat.add_zero, Nat.zero_add, Nat.mul_zero, Nat.reduceAdd, Nat.reduceMul, Nat.reduceSub, ob1_e, ob2_e, ob3_e, ob4_e, ob6_e]
    · simp (disch := omega) only [f_X12_worked, b_X12_worked_0, er, neg_nI, lit_nI, nI_add, pk_mul, pk_sub, nI_clamp, inB_nI, gd_true, bnd_def, nI_leI, nI_ltI, nI_eq, nI_mI, mI_nI, nle_T, nle_F, nlt_T, nlt_F, neq_T, neq_F, ↓reduceIte, Nat.add_zero, Nat.zero_add, Nat.mul_zero, Nat.reduceAdd, Nat.reduceMul, Nat.reduceSub, ob1_e, ob2_e, ob3_e, ob4_e, ob6_e]
  · obtain ⟨r, er⟩ := hb (a - b)
    refine ⟨r, ?_, ?_⟩
    · rw [show cs (3, 0) = mI 3 from rfl, ← er, ← mil_T]
      simp (disch := omega) only [f_X2_combine, b_X2_combine_0, b_X2_combine_156, b_X2_combine_85, mI_eq, neg_nI, lit_nI, nI_add, pk_mul, pk_sub, nI_clamp, inB_nI, gd_true, bnd_def, nI_leI, nI_ltI, nI_eq, nI_mI, mI_nI, nle_T, nle_F, nlt_T, nlt_F, neq_T, neq_F, ↓reduceIte, Nat.add_zero, Nat.zero_add, Nat.mul_zero, Nat.reduceAdd, Nat.reduceMul, Nat.reduceSub, ob1_e, ob2_e, ob3_e, ob4_e, ob6_e]
    · simp (disch := omega) only [f_X12_worked, b_X12_worked_0, er, neg_nI, lit_nI, nI_add, pk_mul, pk_sub, nI_clamp, inB_nI, gd_true, bnd_def, nI_leI, nI_ltI, nI_eq, nI_mI, mI_nI, nle_T, nle_F, nlt_T, nlt_F, neq_T, neq_F, ↓reduceIte, Nat.add_zero, Nat.zero_add, Nat.mul_zero, Nat.reduceAdd, Nat.reduceMul, Nat.reduceSub, ob1_e, ob2_e, ob3_e, ob4_e, ob6_e]
  · obtain ⟨r, er⟩ := hb (a * b)
    refine ⟨r, ?_, ?_⟩
    · rw [show cs (4, 0) = mI 4 from rfl, ← er, ← mil_T]
      simp (disch := omega) only [f_X2_combine, b_X2_combine_0, b_X2_combine_156, b_X2_combine_85, mI_eq, neg_nI, lit_nI, nI_add, pk_mul, pk_sub, nI_clamp, inB_nI, gd_true, bnd_def, nI_leI, nI_ltI, nI_eq, nI_mI, mI_nI, nle_T, nle_F, nlt_T, nlt_F, neq_T, neq_F, ↓reduceIte, Nat.add_zero, Nat.zero_add, Nat.mul_zero, Nat.reduceAdd, Nat.reduceMul, Nat.reduceSub, ob1_e, ob2_e, ob3_e, ob4_e, ob6_e]
    · simp (disch := omega) only [f_X12_worked, b_X12_worked_0, er, neg_nI, lit_nI, nI_add, pk_mul, pk_sub, nI_clamp, inB_nI, gd_true, bnd_def, nI_leI, nI_ltI, nI_eq, nI_mI, mI_nI, nle_T, nle_F, nlt_T, nlt_F, neq_T, neq_F, ↓reduceIte, Nat.add_zero, Nat.zero_add, Nat.mul_zero, Nat.reduceAdd, Nat.reduceMul, Nat.reduceSub, ob1_e, ob2_e, ob3_e, ob4_e, ob6_e]
  · by_cases q : lg_cmp b (0 : Int64) = nI 0
    · refine ⟨nI 0, ?_, ?_⟩
      · have hz : b_X2_combine_162 (0 : Int64) = some (nI 0) := by
          unfold b_X2_combine_162
          rw [if_pos (by decide), if_pos (by decide)]
          rfl
        rw [show cs (5, 0) = mI 5 from rfl, ← hz]
        simp (disch := omega) only [f_X2_combine, b_X2_combine_0, b_X2_combine_85, mI_eq, q, neg_nI, lit_nI, nI_add, pk_mul, pk_sub, nI_clamp, inB_nI, gd_true, bnd_def, nI_leI, nI_ltI, nI_eq, nI_mI, mI_nI, nle_T, nle_F, nlt_T, nlt_F, neq_T, neq_F, ↓reduceIte, Nat.add_zero, Nat.zero_add, Nat.mul_zero, Nat.reduceAdd, Nat.reduceMul, Nat.reduceSub, ob1_e, ob2_e, ob3_e, ob4_e, ob6_e]
      · simp (disch := omega) only [f_X12_worked, b_X12_worked_0, q, neg_nI, lit_nI, nI_add, pk_mul, pk_sub, nI_clamp, inB_nI, gd_true, bnd_def, nI_leI, nI_ltI, nI_eq, nI_mI, mI_nI, nle_T, nle_F, nlt_T, nlt_F, neq_T, neq_F, ↓reduceIte, Nat.add_zero, Nat.zero_add, Nat.mul_zero, Nat.reduceAdd, Nat.reduceMul, Nat.reduceSub, ob1_e, ob2_e, ob3_e, ob4_e, ob6_e]
    · have nb : nzL b = true := by
        unfold nzL
        apply decide_eq_true
        intro e
        apply q
        rw [e]; decide
      obtain ⟨r, er⟩ := hb (a / b)
      refine ⟨r, ?_, ?_⟩
      · rw [show cs (5, 0) = mI 5 from rfl, ← er, ← mil_T]
        simp (disch := omega) only [f_X2_combine, b_X2_combine_0, b_X2_combine_85, mI_eq, q, nb, neg_nI, lit_nI, nI_add, pk_mul, pk_sub, nI_clamp, inB_nI, gd_true, bnd_def, nI_leI, nI_ltI, nI_eq, nI_mI, mI_nI, nle_T, nle_F, nlt_T, nlt_F, neq_T, neq_F, ↓reduceIte, Nat.add_zero, Nat.zero_add, Nat.mul_zero, Nat.reduceAdd, Nat.reduceMul, Nat.reduceSub, ob1_e, ob2_e, ob3_e, ob4_e, ob6_e]
      · simp (disch := omega) only [f_X12_worked, b_X12_worked_0, q, nb, er, neg_nI, lit_nI, nI_add, pk_mul, pk_sub, nI_clamp, inB_nI, gd_true, bnd_def, nI_leI, nI_ltI, nI_eq, nI_mI, mI_nI, nle_T, nle_F, nlt_T, nlt_F, neq_T, neq_F, ↓reduceIte, Nat.add_zero, Nat.zero_add, Nat.mul_zero, Nat.reduceAdd, Nat.reduceMul, Nat.reduceSub, ob1_e, ob2_e, ob3_e, ob4_e, ob6_e]
  · refine ⟨if lg_cmp a b = nI 0 then nI 1 else nI 0, ?_, ?_⟩
    · rw [show cs (6, 0) = mI 6 from rfl]
      simp (disch := omega) only [f_X2_combine, b_X2_combine_0, b_X2_combine_156, b_X2_combine_85, mI_eq, neg_nI, lit_nI, nI_add, pk_mul, pk_sub, nI_clamp, inB_nI, gd_true, bnd_def, nI_leI, nI_ltI, nI_eq, nI_mI, mI_nI, nle_T, nle_F, nlt_T, nlt_F, neq_T, neq_F, ↓reduceIte, Nat.add_zero, Nat.zero_add, Nat.mul_zero, Nat.reduceAdd, Nat.reduceMul, Nat.reduceSub, ob1_e, ob2_e, ob3_e, ob4_e, ob6_e]
      repeat' split
      all_goals rfl
    · simp (disch := omega) only [f_X12_worked, b_X12_worked_0, b_X12_worked_144, b_X12_worked_156, neg_nI, lit_nI, nI_add, pk_mul, pk_sub, nI_clamp, inB_nI, gd_true, bnd_def, nI_leI, nI_ltI, nI_eq, nI_mI, mI_nI, nle_T, nle_F, nlt_T, nlt_F, neq_T, neq_F, ↓reduceIte, Nat.add_zero, Nat.zero_add, Nat.mul_zero, Nat.reduceAdd, Nat.reduceMul, Nat.reduceSub, ob1_e, ob2_e, ob3_e, ob4_e, ob6_e]
      repeat' split
      all_goals rfl
  · refine ⟨if nI 0 ≤ lg_cmp a b then nI 0 else nI 1, ?_, ?_⟩
    · rw [show cs (7, 0) = mI 7 from rfl]
      simp (disch := omega) only [f_X2_combine, b_X2_combine_0, b_X2_combine_156, b_X2_combine_85, mI_eq, neg_nI, lit_nI, nI_add, pk_mul, pk_sub, nI_clamp, inB_nI, gd_true, bnd_def, nI_leI, nI_ltI, nI_eq, nI_mI, mI_nI, nle_T, nle_F, nlt_T, nlt_F, neq_T, neq_F, ↓reduceIte, Nat.add_zero, Nat.zero_add, Nat.mul_zero, Nat.reduceAdd, Nat.reduceMul, Nat.reduceSub, ob1_e, ob2_e, ob3_e, ob4_e, ob6_e]
      repeat' split
      all_goals rfl
    · simp (disch := omega) only [f_X12_worked, b_X12_worked_0, b_X12_worked_144, b_X12_worked_156, neg_nI, lit_nI, nI_add, pk_mul, pk_sub, nI_clamp, inB_nI, gd_true, bnd_def, nI_leI, nI_ltI, nI_eq, nI_mI, mI_nI, nle_T, nle_F, nlt_T, nlt_F, neq_T, neq_F, ↓reduceIte, Nat.add_zero, Nat.zero_add, Nat.mul_zero, Nat.reduceAdd, Nat.reduceMul, Nat.reduceSub, ob1_e, ob2_e, ob3_e, ob4_e, ob6_e]
      repeat' split
      all_goals rfl
  · refine ⟨if lg_cmp a b ≤ nI 0 then nI 0 else nI 1, ?_, ?_⟩
    · rw [show cs (8, 0) = mI 8 from rfl]
      simp (disch := omega) only [f_X2_combine, b_X2_combine_0, b_X2_combine_156, b_X2_combine_85, mI_eq, neg_nI, lit_nI, nI_add, pk_mul, pk_sub, nI_clamp, inB_nI, gd_true, bnd_def, nI_leI, nI_ltI, nI_eq, nI_mI, mI_nI, nle_T, nle_F, nlt_T, nlt_F, neq_T, neq_F, ↓reduceIte, Nat.add_zero, Nat.zero_add, Nat.mul_zero, Nat.reduceAdd, Nat.reduceMul, Nat.reduceSub, ob1_e, ob2_e, ob3_e, ob4_e, ob6_e]
      repeat' split
      all_goals rfl
    · simp (disch := omega) only [f_X12_worked, b_X12_worked_0, b_X12_worked_144, b_X12_worked_156, neg_nI, lit_nI, nI_add, pk_mul, pk_sub, nI_clamp, inB_nI, gd_true, bnd_def, nI_leI, nI_ltI, nI_eq, nI_mI, mI_nI, nle_T, nle_F, nlt_T, nlt_F, neq_T, neq_F, ↓reduceIte, Nat.add_zero, Nat.zero_add, Nat.mul_zero, Nat.reduceAdd, Nat.reduceMul, Nat.reduceSub, ob1_e, ob2_e, ob3_e, ob4_e, ob6_e]
      repeat' split
      all_goals rfl
  · refine ⟨if lg_cmp a (0 : Int64) = nI 0 then nI 0 else if lg_cmp b (0 : Int64) = nI 0 then nI 0 else nI 1, ?_, ?_⟩
    · rw [show cs (10, 0) = mI 9 from rfl]
      simp (disch := omega) only [f_X2_combine, b_X2_combine_0, b_X2_combine_156, b_X2_combine_85, mI_eq, neg_nI, lit_nI, nI_add, pk_mul, pk_sub, nI_clamp, inB_nI, gd_true, bnd_def, nI_leI, nI_ltI, nI_eq, nI_mI, mI_nI, nle_T, nle_F, nlt_T, nlt_F, neq_T, neq_F, ↓reduceIte, Nat.add_zero, Nat.zero_add, Nat.mul_zero, Nat.reduceAdd, Nat.reduceMul, Nat.reduceSub, ob1_e, ob2_e, ob3_e, ob4_e, ob6_e]
      repeat' split
      all_goals rfl
    · simp (disch := omega) only [f_X12_worked, b_X12_worked_0, b_X12_worked_144, b_X12_worked_156, neg_nI, lit_nI, nI_add, pk_mul, pk_sub, nI_clamp, inB_nI, gd_true, bnd_def, nI_leI, nI_ltI, nI_eq, nI_mI, mI_nI, nle_T, nle_F, nlt_T, nlt_F, neq_T, neq_F, ↓reduceIte, Nat.add_zero, Nat.zero_add, Nat.mul_zero, Nat.reduceAdd, Nat.reduceMul, Nat.reduceSub, ob1_e, ob2_e, ob3_e, ob4_e, ob6_e]
      repeat' split
      all_goals rfl
  · refine ⟨if lg_cmp a (0 : Int64) = nI 0 then (if lg_cmp b (0 : Int64) = nI 0 then nI 0 else nI 1) else nI 1, ?_, ?_⟩
    · rw [show cs (11, 0) = mI 10 from rfl]
      simp (disch := omega) only [f_X2_combine, b_X2_combine_0, b_X2_combine_156, b_X2_combine_85, mI_eq, neg_nI, lit_nI, nI_add, pk_mul, pk_sub, nI_clamp, inB_nI, gd_true, bnd_def, nI_leI, nI_ltI, nI_eq, nI_mI, mI_nI, nle_T, nle_F, nlt_T, nlt_F, neq_T, neq_F, ↓reduceIte, Nat.add_zero, Nat.zero_add, Nat.mul_zero, Nat.reduceAdd, Nat.reduceMul, Nat.reduceSub, ob1_e, ob2_e, ob3_e, ob4_e, ob6_e]
      repeat' split
      all_goals rfl
    · simp (disch := omega) only [f_X12_worked, b_X12_worked_0, b_X12_worked_144, b_X12_worked_156, neg_nI, lit_nI, nI_add, pk_mul, pk_sub, nI_clamp, inB_nI, gd_true, bnd_def, nI_leI, nI_ltI, nI_eq, nI_mI, mI_nI, nle_T, nle_F, nlt_T, nlt_F, neq_T, neq_F, ↓reduceIte, Nat.add_zero, Nat.zero_add, Nat.mul_zero, Nat.reduceAdd, Nat.reduceMul, Nat.reduceSub, ob1_e, ob2_e, ob3_e, ob4_e, ob6_e]
      repeat' split
      all_goals rfl
end
section
/-! rows of tokens are worked out alike by both -/
def tpX (k : Nat) : Int32 := if k = 0 then mI 1 else nI (k - 1)
theorem tpX_1 (k : Nat) (h : k < 1000) : tpX k + nI 1 = nI k := by
  unfold tpX
  by_cases e : k = 0
  · rw [if_pos e, e]; decide
  · rw [if_neg e, nI_add]; congr 1; omega
theorem add_m1 {k : Nat} (h : k < 1000) : nI (k + 1) + mI 1 = nI k := by
  apply Int32.toInt_inj.mp
  rw [Int32.toInt_add, nI_toInt (by omega), mI_toInt (by omega), nI_toInt (by omega), Int.bmod_eq_of_le (by omega) (by omega)]
  omega
theorem le_nm {a q : Nat} (h : a < 2 ^ 30 ∧ 0 < q ∧ q < 2 ^ 30) : (nI a ≤ mI q) = False := by
  refine eq_false ?_
  rw [le32, nI_toInt (by omega), mI_toInt (by omega)]
  omega
theorem lt_mn {a q : Nat} (h : a < 2 ^ 30 ∧ 0 < q ∧ q < 2 ^ 30) : (mI q < nI a) = True := by
  refine eq_true ?_
  rw [lt32, nI_toInt (by omega), mI_toInt (by omega)]
  omega
theorem lt_mm {a b : Nat} (h : a < 2 ^ 30 ∧ b < 2 ^ 30) : (mI a < mI b) = (b < a) := by
  apply propext
  rw [lt32, mI_toInt (by omega), mI_toInt (by omega)]
  omega
theorem sub_14 {l : Nat} (h : l < 6) : mI 14 - mI (14 + l) = nI l := by
  have : ∀ l, l < 6 → mI 14 - mI (14 + l) = nI l := by decide
  exact this l h
def SX (lt : Nat → Int32) (L : List Tok) (h : Nat) (v : Int32) : Prop := ∀ (ar : Nat → Int32) (f : Nat) (st : Nat → Int32) (i len k : Nat), len ≤ 241 → i + L.length ≤ len → k + h ≤ 200 → Rd cs ar i L → ∃ st', f_X2_worth_5 lt ar 241 (f + L.length) st (nI len) (tpX k) (nI i) = f_X2_worth_5 lt ar 241 f st' (nI len) (nI k) (nI (i + L.length)) ∧ st' k = v ∧ ∀ j, j < k → st' j = st j
def SY (ml : Nat → Int32) (L : List Tok) (h : Nat) (v : Int32) : Prop := ∀ (mc mv : Nat → Int32) (f : Nat) (st : Nat → Int32) (tx to i k : Nat), tx ≤ 4 → to ≤ 520 → i + L.length ≤ 520 * tx + to → k + h ≤ 80 → Rd tc mc i L → Rd tv mv i L → ∃ st', f_X12_workOut_12 mc mv ml (f + L.length) st (nI tx) (nI to) (nI k) (nI i) = f_X12_workOut_12 mc mv ml f st' (nI tx) (nI to) (nI (k + 1)) (nI (i + L.length)) ∧ st' k = v ∧ ∀ j, j < k → st' j = st j
section RU
variable {lt ml : Nat → Int32}
theorem ux5 (ar : Nat → Int32) (f : Nat) (a : Nat → Int32) (b c d : Int32) : f_X2_worth_5 lt ar 241 (f + 1) a b c d = b_X2_worth_5 lt ar 241 (f_X2_worth_5 lt ar 241 f) a b c d := rfl
theorem uy12 (mc mv : Nat → Int32) (f : Nat) (a : Nat → Int32) (b c d e : Int32) : f_X12_workOut_12 mc mv ml (f + 1) a b c d e = b_X12_workOut_12 mc mv ml (f_X12_workOut_12 mc mv ml f) a b c d e := rfl
theorem binX {ar st : Nat → Int32} {f i len k q : Nat} {r : Int32} (hl : len ≤ 241) (hi : i < len) (hk : k < 200) (hq : 2 ≤ q ∧ q ≤ 10) (e : ar i = mI q) (er : f_X2_combine (mI q) (st k).toInt64 (st (k + 1)).toInt64 = some r) : f_X2_worth_5 lt ar 241 (f + 1) st (nI len) (nI (k + 1)) (nI i) = f_X2_worth_5 lt ar 241 f (upd st k r) (nI len) (nI k) (nI (i + 1)) := by
  rw [ux5]
  simp (disch := omega) only [b_X2_worth_5, e, mI_eq, le_nm, lt_mm, b_X2_worth_138, add_m1, er, b_X2_worth_173, neg_nI, lit_nI, nI_add, pk_mul, pk_sub, nI_clamp, inB_nI, gd_true, bnd_def, nI_leI, nI_ltI, nI_eq, nI_mI, mI_nI, nle_T, nle_F, nlt_T, nlt_F, neq_T, neq_F, ↓reduceIte, Nat.add_zero, Nat.zero_add, Nat.mul_zero, Nat.reduceAdd, Nat.reduceMul, Nat.reduceSub, ob1_e, ob2_e, ob3_e, ob4_e, ob6_e]
theorem notX {ar st : Nat → Int32} {f i len k : Nat} (hl : len ≤ 241) (hi : i < len) (hk : k < 200) (e : ar i = mI 11) : f_X2_worth_5 lt ar 241 (f + 1) st (nI len) (nI k) (nI i) = f_X2_worth_5 lt ar 241 f (upd st k (nI 1 - st k)) (nI len) (nI k) (nI (i + 1)) := by
  rw [ux5]
  simp (disch := omega) only [b_X2_worth_5, e, mI_eq, le_nm, lt_mm, b_X2_worth_173, neg_nI, lit_nI, nI_add, pk_mul, pk_sub, nI_clamp, inB_nI, gd_true, bnd_def, nI_leI, nI_ltI, nI_eq, nI_mI, mI_nI, nle_T, nle_F, nlt_T, nlt_F, neq_T, neq_F, ↓reduceIte, Nat.add_zero, Nat.zero_add, Nat.mul_zero, Nat.reduceAdd, Nat.reduceMul, Nat.reduceSub, ob1_e, ob2_e, ob3_e, ob4_e, ob6_e]
theorem numX {ar st : Nat → Int32} {f i len k v : Nat} (hl : len ≤ 241) (hi : i < len) (hk : k < 200) (hv : v ≤ 9999) (e : ar i = nI v) : f_X2_worth_5 lt ar 241 (f + 1) st (nI len) (tpX k) (nI i) = f_X2_worth_5 lt ar 241 f (upd st k (nI v)) (nI len) (nI k) (nI (i + 1)) := by
  rw [ux5]
  simp (disch := omega) only [b_X2_worth_5, e, b_X2_worth_78, b_X2_worth_106, tpX_1, b_X2_worth_173, neg_nI, lit_nI, nI_add, pk_mul, pk_sub, nI_clamp, inB_nI, gd_true, bnd_def, nI_leI, nI_ltI, nI_eq, nI_mI, mI_nI, nle_T, nle_F, nlt_T, nlt_F, neq_T, neq_F, ↓reduceIte, Nat.add_zero, Nat.zero_add, Nat.mul_zero, Nat.reduceAdd, Nat.reduceMul, Nat.reduceSub, ob1_e, ob2_e, ob3_e, ob4_e, ob6_e]
theorem ltrX {ar st : Nat → Int32} {f i len k l : Nat} (hl : len ≤ 241) (hi : i < len) (hk : k < 200) (hv : l < 6) (e : ar i = mI (14 + l)) : f_X2_worth_5 lt ar 241 (f + 1) st (nI len) (tpX k) (nI i) = f_X2_worth_5 lt ar 241 f (upd st k (lt l)) (nI len) (nI k) (nI (i + 1)) := by
  rw [ux5]
  simp (disch := omega) only [b_X2_worth_5, e, mI_eq, le_nm, lt_mm, lt_mn, sub_14, b_X2_worth_78, b_X2_worth_106, tpX_1, b_X2_worth_173, neg_nI, lit_nI, nI_add, pk_mul, pk_sub, nI_clamp, inB_nI, gd_true, bnd_def, nI_leI, nI_ltI, nI_eq, nI_mI, mI_nI, nle_T, nle_F, nlt_T, nlt_F, neq_T, neq_F, ↓reduceIte, Nat.add_zero, Nat.zero_add, Nat.mul_zero, Nat.reduceAdd, Nat.reduceMul, Nat.reduceSub, ob1_e, ob2_e, ob3_e, ob4_e, ob6_e]
theorem binY {mc mv st : Nat → Int32} {f i tx to k c : Nat} {r : Int32} (ht : tx ≤ 4) (hto : to ≤ 520) (hi : i < 520 * tx + to) (hk : k + 2 ≤ 80) (hc : 2 ≤ c ∧ c ≤ 11 ∧ c ≠ 9) (e : mc i = nI c) (er : f_X12_worked (nI c) (st k).toInt64 (st (k + 1)).toInt64 = some r) : f_X12_workOut_12 mc mv ml (f + 1) st (nI tx) (nI to) (nI (k + 1 + 1)) (nI i) = f_X12_workOut_12 mc mv ml f (upd st k r) (nI tx) (nI to) (nI (k + 1)) (nI (i + 1)) := by
  rw [uy12]
  simp (disch := omega) only [b_X12_workOut_12, e, add_m1, er, b_X12_workOut_165, Nat.add_sub_cancel, neg_nI, lit_nI, nI_add, pk_mul, pk_sub, nI_clamp, inB_nI, gd_true, bnd_def, nI_leI, nI_ltI, nI_eq, nI_mI, mI_nI, nle_T, nle_F, nlt_T, nlt_F, neq_T, neq_F, ↓reduceIte, Nat.add_zero, Nat.zero_add, Nat.mul_zero, Nat.reduceAdd, Nat.reduceMul, Nat.reduceSub, ob1_e, ob2_e, ob3_e, ob4_e, ob6_e]
theorem notY {mc mv st : Nat → Int32} {f i tx to k : Nat} (ht : tx ≤ 4) (hto : to ≤ 520) (hi : i < 520 * tx + to) (hk : k + 1 ≤ 80) (e : mc i = nI 9) : f_X12_workOut_12 mc mv ml (f + 1) st (nI tx) (nI to) (nI (k + 1)) (nI i) = f_X12_workOut_12 mc mv ml f (upd st k (nI 1 - st k)) (nI tx) (nI to) (nI (k + 1)) (nI (i + 1)) := by
  rw [uy12]
  simp (disch := omega) only [b_X12_workOut_12, e, b_X12_workOut_165, Nat.add_sub_cancel, neg_nI, lit_nI, nI_add, pk_mul, pk_sub, nI_clamp, inB_nI, gd_true, bnd_def, nI_leI, nI_ltI, nI_eq, nI_mI, mI_nI, nle_T, nle_F, nlt_T, nlt_F, neq_T, neq_F, ↓reduceIte, Nat.add_zero, Nat.zero_add, Nat.mul_zero, Nat.reduceAdd, Nat.reduceMul, Nat.reduceSub, ob1_e, ob2_e, ob3_e, ob4_e, ob6_e]
theorem numY {mc mv st : Nat → Int32} {f i tx to k : Nat} (ht : tx ≤ 4) (hto : to ≤ 520) (hi : i < 520 * tx + to) (hk : k + 1 ≤ 80) (e : mc i = nI 0) : f_X12_workOut_12 mc mv ml (f + 1) st (nI tx) (nI to) (nI k) (nI i) = f_X12_workOut_12 mc mv ml f (upd st k (mv i)) (nI tx) (nI to) (nI (k + 1)) (nI (i + 1)) := by
  rw [uy12]
  simp (disch := omega) only [b_X12_workOut_12, b_X12_workOut_45, b_X12_workOut_83, e, b_X12_workOut_165, Nat.add_sub_cancel, neg_nI, lit_nI, nI_add, pk_mul, pk_sub, nI_clamp, inB_nI, gd_true, bnd_def, nI_leI, nI_ltI, nI_eq, nI_mI, mI_nI, nle_T, nle_F, nlt_T, nlt_F, neq_T, neq_F, ↓reduceIte, Nat.add_zero, Nat.zero_add, Nat.mul_zero, Nat.reduceAdd, Nat.reduceMul, Nat.reduceSub, ob1_e, ob2_e, ob3_e, ob4_e, ob6_e]
theorem ltrY {mc mv st : Nat → Int32} {f i tx to k l : Nat} (ht : tx ≤ 4) (hto : to ≤ 520) (hi : i < 520 * tx + to) (hk : k + 1 ≤ 80) (hl : l < 6) (e : mc i = nI 1) (e2 : mv i = nI l) : f_X12_workOut_12 mc mv ml (f + 1) st (nI tx) (nI to) (nI k) (nI i) = f_X12_workOut_12 mc mv ml f (upd st k (ml l)) (nI tx) (nI to) (nI (k + 1)) (nI (i + 1)) := by
  rw [uy12]
  simp (disch := omega) only [b_X12_workOut_12, b_X12_workOut_45, b_X12_workOut_83, e, e2, b_X12_workOut_165, Nat.add_sub_cancel, neg_nI, lit_nI, nI_add, pk_mul, pk_sub, nI_clamp, inB_nI, gd_true, bnd_def, nI_leI, nI_ltI, nI_eq, nI_mI, mI_nI, nle_T, nle_F, nlt_T, nlt_F, neq_T, neq_F, ↓reduceIte, Nat.add_zero, Nat.zero_add, Nat.mul_zero, Nat.reduceAdd, Nat.reduceMul, Nat.reduceSub, ob1_e, ob2_e, ob3_e, ob4_e, ob6_e]
theorem csb (k : Nat) (h : 2 ≤ k ∧ k ≤ 11 ∧ k ≠ 9) : ∃ q, 2 ≤ q ∧ q ≤ 10 ∧ cs (k, 0) = mI q := by
  have hk : k = 2 ∨ k = 3 ∨ k = 4 ∨ k = 5 ∨ k = 6 ∨ k = 7 ∨ k = 8 ∨ k = 10 ∨ k = 11 := by omega
  rcases hk with rfl | rfl | rfl | rfl | rfl | rfl | rfl | rfl | rfl
  · exact ⟨2, by omega, by omega, rfl⟩
  · exact ⟨3, by omega, by omega, rfl⟩
  · exact ⟨4, by omega, by omega, rfl⟩
  · exact ⟨5, by omega, by omega, rfl⟩
  · exact ⟨6, by omega, by omega, rfl⟩
  · exact ⟨7, by omega, by omega, rfl⟩
  · exact ⟨8, by omega, by omega, rfl⟩
  · exact ⟨9, by omega, by omega, rfl⟩
  · exact ⟨10, by omega, by omega, rfl⟩
theorem tp_s (k : Nat) : tpX (k + 1) = nI k := by unfold tpX; rw [if_neg (by omega)]; rfl
theorem run_c (hl : ∀ l, l < 6 → ml l = lt l) {L : List Tok} {h : Nat} (e : Ex L h) : 0 < h ∧ ∃ v, SX lt L h v ∧ SY ml L h v := by
  refine e (fun L h => 0 < h ∧ ∃ v, SX lt L h v ∧ SY ml L h v) ?_ ?_ ?_ ?_
  · intro v hv
    refine ⟨by omega, nI v, ?_, ?_⟩
    · intro ar f st i len k h1 h2 h3 hr
      replace h2 : i + 1 ≤ len := h2
      exact ⟨upd st k (nI v), numX h1 (by omega) (by omega) hv hr.1, upd_s, fun j hj => upd_n (by omega)⟩
    · intro mc mv f st tx to i k h1 h2 h3 h4 hr hr2
      replace h3 : i + 1 ≤ 520 * tx + to := h3
      exact ⟨upd st k (mv i), numY h1 h2 (by omega) (by omega) hr.1, by rw [upd_s]; exact hr2.1, fun j hj => upd_n (by omega)⟩
  · intro l hv
    refine ⟨by omega, lt l, ?_, ?_⟩
    · intro ar f st i len k h1 h2 h3 hr
      replace h2 : i + 1 ≤ len := h2
      exact ⟨upd st k (lt l), ltrX h1 (by omega) (by omega) hv hr.1, upd_s, fun j hj => upd_n (by omega)⟩
    · intro mc mv f st tx to i k h1 h2 h3 h4 hr hr2
      replace h3 : i + 1 ≤ 520 * tx + to := h3
      exact ⟨upd st k (ml l), ltrY h1 h2 (by omega) (by omega) hv hr.1 hr2.1, by rw [upd_s, hl l hv], fun j hj => upd_n (by omega)⟩
  · intro k0 A B x y hk0 hA hB
    obtain ⟨x0, va, XA, YA⟩ := hA
    obtain ⟨y0, vb, XB, YB⟩ := hB
    obtain ⟨r, er1, er2⟩ := comb_c k0 hk0 va.toInt64 vb.toInt64
    obtain ⟨q, q1, q2, eq⟩ := csb k0 hk0
    rw [eq] at er1
    have hlen := len3 (A := A) (B := B) (x := (k0, 0))
    refine ⟨by omega, r, ?_, ?_⟩
    · intro ar f st i len k h1 h2 h3 hr
      rw [hlen] at h2 ⊢
      obtain ⟨hr1, hr2⟩ := Rd_app A (B ++ [(k0, 0)]) i hr
      obtain ⟨hr2, hr3⟩ := Rd_app B [(k0, 0)] (i + A.length) hr2
      obtain ⟨st1, e1, e2, e3⟩ := XA ar (f + 1 + B.length) st i len k h1 (by omega) (by omega) hr1
      obtain ⟨st2, f1, f2, f3⟩ := XB ar (f + 1) st1 (i + A.length) len (k + 1) h1 (by omega) (by omega) hr2
      rw [tp_s] at f1
      have hb := binX (lt := lt) (ar := ar) (st := st2) (f := f) (i := i + A.length + B.length) (len := len) (k := k) (q := q) (r := r) h1 (by omega) (by omega) ⟨q1, q2⟩ (by rw [hr3.1, eq]) (by rw [f2, f3 k (by omega), e2]; exact er1)
      refine ⟨upd st2 k r, ?_, upd_s, fun j hj => ?_⟩
      · rw [show f + (A.length + B.length + 1) = f + 1 + B.length + A.length by omega, e1, f1, hb, show i + A.length + B.length + 1 = i + (A.length + B.length + 1) by omega]
      · rw [upd_n (by omega), f3 j (by omega), e3 j hj]
    · intro mc mv f st tx to i k h1 h2 h3 h4 hr hw
      rw [hlen] at h3 ⊢
      obtain ⟨hr1, hr2⟩ := Rd_app A (B ++ [(k0, 0)]) i hr
      obtain ⟨hr2, hr3⟩ := Rd_app B [(k0, 0)] (i + A.length) hr2
      obtain ⟨hw1, hw2⟩ := Rd_app A (B ++ [(k0, 0)]) i hw
      obtain ⟨hw2, hw3⟩ := Rd_app B [(k0, 0)] (i + A.length) hw2
      obtain ⟨st1, e1, e2, e3⟩ := YA mc mv (f + 1 + B.length) st tx to i k h1 h2 (by omega) (by omega) hr1 hw1
      obtain ⟨st2, f1, f2, f3⟩ := YB mc mv (f + 1) st1 tx to (i + A.length) (k + 1) h1 h2 (by omega) (by omega) hr2 hw2
      have hb := binY (ml := ml) (mc := mc) (mv := mv) (st := st2) (f := f) (i := i + A.length + B.length) (tx := tx) (to := to) (k := k) (c := k0) (r := r) h1 h2 (by omega) (by omega) hk0 hr3.1 (by rw [f2, f3 k (by omega), e2]; exact er2)
      refine ⟨upd st2 k r, ?_, upd_s, fun j hj => ?_⟩
      · rw [show f + (A.length + B.length + 1) = f + 1 + B.length + A.length by omega, e1, f1, hb, show i + A.length + B.length + 1 = i + (A.length + B.length + 1) by omega]
      · rw [upd_n (by omega), f3 j (by omega), e3 j hj]
  · intro A x hA
    obtain ⟨x0, va, XA, YA⟩ := hA
    have hlen := len2 (A := A) (x := (9, 0))
    refine ⟨x0, nI 1 - va, ?_, ?_⟩
    · intro ar f st i len k h1 h2 h3 hr
      rw [hlen] at h2 ⊢
      obtain ⟨hr1, hr2⟩ := Rd_app A [(9, 0)] i hr
      obtain ⟨st1, e1, e2, e3⟩ := XA ar (f + 1) st i len k h1 (by omega) (by omega) hr1
      have hb := notX (lt := lt) (ar := ar) (st := st1) (f := f) (i := i + A.length) (len := len) (k := k) h1 (by omega) (by omega) hr2.1
      refine ⟨upd st1 k (nI 1 - va), ?_, upd_s, fun j hj => ?_⟩
      · rw [show f + (A.length + 1) = f + 1 + A.length by omega, e1, hb, e2, Nat.add_assoc]
      · rw [upd_n (by omega), e3 j hj]
    · intro mc mv f st tx to i k h1 h2 h3 h4 hr hw
      rw [hlen] at h3 ⊢
      obtain ⟨hr1, hr2⟩ := Rd_app A [(9, 0)] i hr
      obtain ⟨hw1, hw2⟩ := Rd_app A [(9, 0)] i hw
      obtain ⟨st1, e1, e2, e3⟩ := YA mc mv (f + 1) st tx to i k h1 h2 (by omega) (by omega) hr1 hw1
      have hb := notY (ml := ml) (mc := mc) (mv := mv) (st := st1) (f := f) (i := i + A.length) (tx := tx) (to := to) (k := k) h1 h2 (by omega) (by omega) hr2.1
      refine ⟨upd st1 k (nI 1 - va), ?_, upd_s, fun j hj => ?_⟩
      · rw [show f + (A.length + 1) = f + 1 + A.length by omega, e1, hb, e2, Nat.add_assoc]
      · rw [upd_n (by omega), e3 j hj]
end RU
end
section
/-! a law is worth the same by both -/
theorem Ex.nd {L : List Tok} {h : Nat} (e : Ex L h) : ∀ x, x ∈ L → cs x ≠ mI 13 := by
  refine e (fun L _ => ∀ x, x ∈ L → cs x ≠ mI 13) ?_ ?_ ?_ ?_
  · intro v hv x hx
    rw [List.mem_singleton.mp hx]
    show nI v ≠ mI 13
    intro q
    exact (nI_mI (n := v) (k := 13) (by omega)).mp q
  · intro l hl x hx
    rw [List.mem_singleton.mp hx]
    show mI (14 + l) ≠ mI 13
    rw [ne_eq, mI_eq (by omega)]
    omega
  · intro k A B _ _ hk hA hB x hx
    rcases List.mem_append.mp hx with q | q
    · exact hA x q
    · rcases List.mem_append.mp q with q | q
      · exact hB x q
      · rw [List.mem_singleton.mp q]
        obtain ⟨w, w1, w2, e⟩ := csb k hk
        rw [e, ne_eq, mI_eq (by omega)]
        omega
  · intro A _ hA x hx
    rcases List.mem_append.mp hx with q | q
    · exact hA x q
    · rw [List.mem_singleton.mp q]
      decide
section WO
variable {lt ml : Nat → Int32}
theorem ec_l {ar : Nat → Int32} {len : Nat} (hl : len ≤ 241) : ∀ (L : List Tok) (i f : Nat), (∀ x, x ∈ L → cs x ≠ mI 13) → Rd cs ar i (L ++ [(14, 0)]) → i + L.length < len → L.length < f → f_X2_endOfClause_2 ar 241 f (nI len) (nI i) = some (nI (i + L.length))
  | [], i, f + 1, _, hr, hi, _ => by
    replace hi : i < len := hi
    have e : ar i = mI 13 := hr.1
    rw [show f_X2_endOfClause_2 ar 241 (f + 1) (nI len) (nI i) = b_X2_endOfClause_2 ar 241 (f_X2_endOfClause_2 ar 241 f) (nI len) (nI i) from rfl]
    simp (disch := omega) only [b_X2_endOfClause_2, e, mI_eq, neg_nI, lit_nI, nI_add, pk_mul, pk_sub, nI_clamp, inB_nI, gd_true, bnd_def, nI_leI, nI_ltI, nI_eq, nI_mI, mI_nI, nle_T, nle_F, nlt_T, nlt_F, neq_T, neq_F, ↓reduceIte, Nat.add_zero, Nat.zero_add, Nat.mul_zero, Nat.reduceAdd, Nat.reduceMul, Nat.reduceSub, ob1_e, ob2_e, ob3_e, ob4_e, ob6_e]
    rfl
  | x :: L, i, f + 1, hn, hr, hi, hf => by
    have hlen : (x :: L).length = L.length + 1 := rfl
    rw [hlen] at hi hf ⊢
    have e : ar i = cs x := hr.1
    have ne : cs x ≠ mI 13 := hn x (List.mem_cons_self ..)
    have ih := ec_l hl L (i + 1) f (fun y hy => hn y (List.mem_cons_of_mem _ hy)) hr.2 (by omega) (by omega)
    rw [show f_X2_endOfClause_2 ar 241 (f + 1) (nI len) (nI i) = b_X2_endOfClause_2 ar 241 (f_X2_endOfClause_2 ar 241 f) (nI len) (nI i) from rfl]
    rw [show i + (L.length + 1) = i + 1 + L.length by omega, ← ih]
    simp (disch := omega) only [b_X2_endOfClause_2, e, ne, neg_nI, lit_nI, nI_add, pk_mul, pk_sub, nI_clamp, inB_nI, gd_true, bnd_def, nI_leI, nI_ltI, nI_eq, nI_mI, mI_nI, nle_T, nle_F, nlt_T, nlt_F, neq_T, neq_F, ↓reduceIte, Nat.add_zero, Nat.zero_add, Nat.mul_zero, Nat.reduceAdd, Nat.reduceMul, Nat.reduceSub, ob1_e, ob2_e, ob3_e, ob4_e, ob6_e]
theorem doneX {ar st : Nat → Int32} {f i len : Nat} {tp : Int32} (hl : len ≤ 241) (hi : i < len) (e : ar i = mI 13) : f_X2_worth_5 lt ar 241 (f + 1) st (nI len) tp (nI i) = some (st 0, st) := by
  rw [ux5]
  simp (disch := omega) only [b_X2_worth_5, e, mI_eq, neg_nI, lit_nI, nI_add, pk_mul, pk_sub, nI_clamp, inB_nI, gd_true, bnd_def, nI_leI, nI_ltI, nI_eq, nI_mI, mI_nI, nle_T, nle_F, nlt_T, nlt_F, neq_T, neq_F, ↓reduceIte, Nat.add_zero, Nat.zero_add, Nat.mul_zero, Nat.reduceAdd, Nat.reduceMul, Nat.reduceSub, ob1_e, ob2_e, ob3_e, ob4_e, ob6_e]
theorem testX0 {ar st : Nat → Int32} {f i len r : Nat} {tp : Int32} (hl : len ≤ 241) (hi : i < len) (hr : r < 241) (e : ar i = mI 12) (e0 : st 0 = nI 0) (er : f_X2_endOfClause ar 241 (nI len) (nI i) = some (nI r)) : f_X2_worth_5 lt ar 241 (f + 1) st (nI len) tp (nI i) = f_X2_worth_5 lt ar 241 f st (nI len) (mI 1) (nI (r + 1)) := by
  rw [ux5]
  simp (disch := omega) only [b_X2_worth_5, b_X2_worth_61, b_X2_worth_173, e, e0, er, mI_eq, neg_nI, lit_nI, nI_add, pk_mul, pk_sub, nI_clamp, inB_nI, gd_true, bnd_def, nI_leI, nI_ltI, nI_eq, nI_mI, mI_nI, nle_T, nle_F, nlt_T, nlt_F, neq_T, neq_F, ↓reduceIte, Nat.add_zero, Nat.zero_add, Nat.mul_zero, Nat.reduceAdd, Nat.reduceMul, Nat.reduceSub, ob1_e, ob2_e, ob3_e, ob4_e, ob6_e]
theorem testX1 {ar st : Nat → Int32} {f i len : Nat} {tp : Int32} (hl : len ≤ 241) (hi : i < len) (e : ar i = mI 12) (e0 : ¬ st 0 = nI 0) : f_X2_worth_5 lt ar 241 (f + 1) st (nI len) tp (nI i) = f_X2_worth_5 lt ar 241 f st (nI len) (mI 1) (nI (i + 1)) := by
  rw [ux5]
  simp (disch := omega) only [b_X2_worth_5, b_X2_worth_61, b_X2_worth_173, e, e0, mI_eq, neg_nI, lit_nI, nI_add, pk_mul, pk_sub, nI_clamp, inB_nI, gd_true, bnd_def, nI_leI, nI_ltI, nI_eq, nI_mI, mI_nI, nle_T, nle_F, nlt_T, nlt_F, neq_T, neq_F, ↓reduceIte, Nat.add_zero, Nat.zero_add, Nat.mul_zero, Nat.reduceAdd, Nat.reduceMul, Nat.reduceSub, ob1_e, ob2_e, ob3_e, ob4_e, ob6_e]
/-- a row worked out by the model -/
theorem outY {L : List Tok} {h : Nat} {v : Int32} (hY : SY ml L h v) (hh : h ≤ 80) {mc mv st : Nat → Int32} {tx fr : Nat} (ht : tx ≤ 4) (hto : fr + L.length ≤ 520) (hr : Rd tc mc (520 * tx + fr) L) (hw : Rd tv mv (520 * tx + fr) L) : ∃ st', f_X12_workOut mc mv ml st (nI tx) (nI fr) (nI (fr + L.length)) = some (v, st') := by
  have hf := fu_le
  obtain ⟨f, ef⟩ : ∃ f, fu = f + 1 + L.length := ⟨fu - 1 - L.length, by omega⟩
  obtain ⟨st', e1, e2, e3⟩ := hY mc mv (f + 1) st tx (fr + L.length) (520 * tx + fr) 0 ht hto (by omega) (by omega) hr hw
  refine ⟨st', ?_⟩
  have e : f_X12_workOut mc mv ml st (nI tx) (nI fr) (nI (fr + L.length)) = f_X12_workOut_12 mc mv ml fu st (nI tx) (nI (fr + L.length)) (nI 0) (nI (520 * tx + fr)) := by
    simp (disch := omega) only [f_X12_workOut, b_X12_workOut_0, neg_nI, lit_nI, nI_add, pk_mul, pk_sub, nI_clamp, inB_nI, gd_true, bnd_def, nI_leI, nI_ltI, nI_eq, nI_mI, mI_nI, nle_T, nle_F, nlt_T, nlt_F, neq_T, neq_F, ↓reduceIte, Nat.add_zero, Nat.zero_add, Nat.mul_zero, Nat.reduceAdd, Nat.reduceMul, Nat.reduceSub, ob1_e, ob2_e, ob3_e, ob4_e, ob6_e]
  rw [e, ef, e1, uy12, ← e2]
  simp (disch := omega) only [b_X12_workOut_12, neg_nI, lit_nI, nI_add, pk_mul, pk_sub, nI_clamp, inB_nI, gd_true, bnd_def, nI_leI, nI_ltI, nI_eq, nI_mI, mI_nI, nle_T, nle_F, nlt_T, nlt_F, neq_T, neq_F, ↓reduceIte, Nat.add_zero, Nat.zero_add, Nat.mul_zero, Nat.reduceAdd, Nat.reduceMul, Nat.reduceSub, ob1_e, ob2_e, ob3_e, ob4_e, ob6_e]
theorem wl_l (hl : ∀ l, l < 6 → ml l = lt l) {ar mc mv mk mt ms mu : Nat → Int32} {len tx nc : Nat} (hlen : len ≤ 240) (htx : tx ≤ 4) (hnc : nc ≤ 80) (hk : mk tx = nI nc) : ∀ (R : List Cl) (i o p : Nat) (st st2 : Nat → Int32) (kx ky : Nat), Rd cs ar i (XS R) → i + (XS R).length = len → WR mt ms mu p o R → 140 * tx ≤ p → p + R.length = 140 * tx + nc → Rd tc mc (520 * tx + o) (YS R) → Rd tv mv (520 * tx + o) (YS R) → o + (YS R).length ≤ 520 → (∀ C, C ∈ R → OKC C) → (XS R).length < kx → R.length < ky → ∃ v st' st2', f_X2_worth_5 lt ar 241 kx st (nI len) (mI 1) (nI i) = some (v, st') ∧ f_X12_worthOf_6 mc mv mk mt ms mu ml ky st2 (nI tx) (nI p) = some (v, st2')
  | [], i, o, p, st, st2, kx + 1, ky + 1, hr, hi, hw, hp0, hp, hc, hv, ho, hok, _, _ => by
    replace hi : i = len := hi
    replace hp : p = 140 * tx + nc := hp
    subst hi
    refine ⟨nI 0, st, st2, ?_, ?_⟩
    · rw [ux5]
      simp (disch := omega) only [b_X2_worth_5, neg_nI, lit_nI, nI_add, pk_mul, pk_sub, nI_clamp, inB_nI, gd_true, bnd_def, nI_leI, nI_ltI, nI_eq, nI_mI, mI_nI, nle_T, nle_F, nlt_T, nlt_F, neq_T, neq_F, ↓reduceIte, Nat.add_zero, Nat.zero_add, Nat.mul_zero, Nat.reduceAdd, Nat.reduceMul, Nat.reduceSub, ob1_e, ob2_e, ob3_e, ob4_e, ob6_e]
    · rw [show f_X12_worthOf_6 mc mv mk mt ms mu ml (ky + 1) st2 (nI tx) (nI p) = b_X12_worthOf_6 mc mv mk mt ms mu ml (f_X12_worthOf_6 mc mv mk mt ms mu ml ky) st2 (nI tx) (nI p) from rfl]
      simp (disch := omega) only [b_X12_worthOf_6, hk, neg_nI, lit_nI, nI_add, pk_mul, pk_sub, nI_clamp, inB_nI, gd_true, bnd_def, nI_leI, nI_ltI, nI_eq, nI_mI, mI_nI, nle_T, nle_F, nlt_T, nlt_F, neq_T, neq_F, ↓reduceIte, Nat.add_zero, Nat.zero_add, Nat.mul_zero, Nat.reduceAdd, Nat.reduceMul, Nat.reduceSub, ob1_e, ob2_e, ob3_e, ob4_e, ob6_e]
  | C :: R, i, o, p, st, st2, kx + 1, ky + 1, hr, hi, hw, hp0, hp, hc, hv, ho, hok, hkx, hky => by
    obtain ⟨T, S⟩ := C
    have l1 : (XS ((T, S) :: R)).length = (XL T S).length + (XS R).length := by show (XL T S ++ XS R).length = _; rw [List.length_append]
    have l2 : (YS ((T, S) :: R)).length = (T ++ S).length + (YS R).length := by show ((T ++ S) ++ YS R).length = _; rw [List.length_append]
    have l3 : ((T, S) :: R).length = R.length + 1 := rfl
    have l4 : (T ++ S).length = T.length + S.length := List.length_append
    rw [l1] at hi hkx
    rw [l2] at ho
    rw [l3] at hp hky
    obtain ⟨⟨⟨hS, hS1, eS⟩, hT⟩⟩ : OKC (T, S) ∧ True := ⟨hok (T, S) (List.mem_cons_self ..), trivial⟩
    replace eS : Ex S hS := eS
    obtain ⟨hrX, hrR⟩ := Rd_app (XL T S) (XS R) i hr
    obtain ⟨hcY, hcR⟩ := Rd_app (T ++ S) (YS R) (520 * tx + o) hc
    obtain ⟨hvY, hvR⟩ := Rd_app (T ++ S) (YS R) (520 * tx + o) hv
    obtain ⟨hcT, hcS⟩ := Rd_app T S (520 * tx + o) hcY
    obtain ⟨hvT, hvS⟩ := Rd_app T S (520 * tx + o) hvY
    obtain ⟨⟨w1, w2, w3⟩, w4⟩ := hw
    replace w1 : mt p = nI o := w1
    replace w2 : ms p = nI (o + T.length) := w2
    replace w3 : mu p = nI (o + (T ++ S).length) := w3
    rw [l4] at w3
    obtain ⟨_, vS, SXs, SYs⟩ := run_c hl eS
    have uy6 : f_X12_worthOf_6 mc mv mk mt ms mu ml (ky + 1) st2 (nI tx) (nI p) = b_X12_worthOf_6 mc mv mk mt ms mu ml (f_X12_worthOf_6 mc mv mk mt ms mu ml ky) st2 (nI tx) (nI p) := rfl
    rcases hT with hT | ⟨hTh, hT1, eT⟩
    · replace hT : T = [] := hT
      subst hT
      have l5 := XL_0l (S := S)
      obtain ⟨q1, q2⟩ := Rd_app S [(14, 0)] i hrX
      obtain ⟨f, ef⟩ : ∃ f, kx + 1 = f + 1 + S.length := ⟨kx - S.length, by omega⟩
      obtain ⟨st', e1, e2, e3⟩ := SXs ar (f + 1) st i len 0 (by omega) (by omega) (by omega) q1
      replace hcS : Rd tc mc (520 * tx + o) S := hcS
      replace hvS : Rd tv mv (520 * tx + o) S := hvS
      replace w2 : ms p = nI o := w2
      replace w3 : mu p = nI (o + S.length) := by rw [w3]; congr 1; show o + (0 + S.length) = _; omega
      replace l4 : ([] ++ S : List Tok).length = S.length := rfl
      obtain ⟨st3, y1⟩ := outY SYs (by omega) (st := st2) htx (by omega) hcS hvS
      refine ⟨vS, st', st3, ?_, ?_⟩
      · rw [ef, show mI 1 = tpX 0 from rfl, e1, doneX (by omega) (by omega) q2.1, e2]
      · rw [uy6]
        simp (disch := omega) only [b_X12_worthOf_6, b_X12_worthOf_57, hk, w1, w2, w3, y1, neg_nI, lit_nI, nI_add, pk_mul, pk_sub, nI_clamp, inB_nI, gd_true, bnd_def, nI_leI, nI_ltI, nI_eq, nI_mI, mI_nI, nle_T, nle_F, nlt_T, nlt_F, neq_T, neq_F, ↓reduceIte, Nat.add_zero, Nat.zero_add, Nat.mul_zero, Nat.reduceAdd, Nat.reduceMul, Nat.reduceSub, ob1_e, ob2_e, ob3_e, ob4_e, ob6_e]
    · replace eT : Ex T hTh := eT
      have l5 := XL_1l (T := T) (S := S) eT.ne
      have lT := eT.len
      rw [XL_1 eT.ne] at hrX
      obtain ⟨q1, q2⟩ := Rd_app (T ++ [(13, 0)]) (S ++ [(14, 0)]) i hrX
      obtain ⟨q1, q3⟩ := Rd_app T [(13, 0)] i q1
      rw [len2] at q2
      have q2' : Rd cs ar (i + T.length) ((13, 0) :: S ++ [(14, 0)]) := ⟨q3.1, by rw [show i + T.length + 1 = i + (T.length + 1) by omega]; exact q2⟩
      obtain ⟨_, vT, SXt, SYt⟩ := run_c hl eT
      obtain ⟨f, ef⟩ : ∃ f, kx + 1 = f + 1 + T.length := ⟨kx - T.length, by omega⟩
      obtain ⟨st', e1, e2, e3⟩ := SXt ar (f + 1) st i len 0 (by omega) (by omega) (by omega) q1
      obtain ⟨st3, y1⟩ := outY SYt (by omega) (st := st2) htx (by omega) hcT hvT
      have q4 : ar (i + T.length) = mI 12 := q3.1
      by_cases z : vT = nI 0
      · have hec : f_X2_endOfClause ar 241 (nI len) (nI (i + T.length)) = some (nI (i + T.length + (S.length + 1))) := by
          have hf := fu_le
          refine ec_l (by omega) ((13, 0) :: S) (i + T.length) fu ?_ q2' (by show i + T.length + (S.length + 1) < len; omega) (by show S.length + 1 < fu; omega)
          intro x hx
          rcases List.mem_cons.mp hx with q | q
          · rw [q]; decide
          · exact eS.nd x q
        obtain ⟨v, st4, st5, z1, z2⟩ := wl_l hl hlen htx hnc hk R (i + (XL T S).length) (o + (T ++ S).length) (p + 1) st' st3 f ky hrR (by omega) w4 (by omega) (by omega) (by rw [← Nat.add_assoc]; exact hcR) (by rw [← Nat.add_assoc]; exact hvR) (by omega) (fun C hC => hok C (List.mem_cons_of_mem _ hC)) (by omega) (by omega)
        refine ⟨v, st4, st5, ?_, ?_⟩
        · rw [ef, show mI 1 = tpX 0 from rfl, e1, testX0 (by omega) (by omega) (by omega) q4 (by rw [e2, z]) hec, ← z1, l5, show i + T.length + (S.length + 1) + 1 = i + (T.length + S.length + 2) by omega]
        · rw [uy6, ← z2]
          simp (disch := omega) only [b_X12_worthOf_6, hk, w1, w2, y1, z, neg_nI, lit_nI, nI_add, pk_mul, pk_sub, nI_clamp, inB_nI, gd_true, bnd_def, nI_leI, nI_ltI, nI_eq, nI_mI, mI_nI, nle_T, nle_F, nlt_T, nlt_F, neq_T, neq_F, ↓reduceIte, Nat.add_zero, Nat.zero_add, Nat.mul_zero, Nat.reduceAdd, Nat.reduceMul, Nat.reduceSub, ob1_e, ob2_e, ob3_e, ob4_e, ob6_e]
      · obtain ⟨g, eg⟩ : ∃ g, f = g + 1 + S.length := ⟨f - 1 - S.length, by omega⟩
        obtain ⟨q5, q6⟩ := Rd_app S [(14, 0)] (i + (T.length + 1)) q2
        obtain ⟨st4, f1, f2, f3⟩ := SXs ar (g + 1) st' (i + (T.length + 1)) len 0 (by omega) (by omega) (by omega) q5
        obtain ⟨st5, y2⟩ := outY SYs (by omega) (st := st3) (tx := tx) (fr := o + T.length) htx (by omega) (by rw [← Nat.add_assoc]; exact hcS) (by rw [← Nat.add_assoc]; exact hvS)
        rw [Nat.add_assoc o] at y2
        refine ⟨vS, st4, st5, ?_, ?_⟩
        · rw [ef, show mI 1 = tpX 0 from rfl, e1, testX1 (by omega) (by omega) q4 (by rw [e2]; exact z), eg, Nat.add_assoc i, show mI 1 = tpX 0 from rfl, f1, doneX (by omega) (by omega) q6.1, f2]
        · rw [uy6]
          simp (disch := omega) only [b_X12_worthOf_6, b_X12_worthOf_57, hk, w1, w2, w3, y1, y2, z, neg_nI, lit_nI, nI_add, pk_mul, pk_sub, nI_clamp, inB_nI, gd_true, bnd_def, nI_leI, nI_ltI, nI_eq, nI_mI, mI_nI, nle_T, nle_F, nlt_T, nlt_F, neq_T, neq_F, ↓reduceIte, Nat.add_zero, Nat.zero_add, Nat.mul_zero, Nat.reduceAdd, Nat.reduceMul, Nat.reduceSub, ob1_e, ob2_e, ob3_e, ob4_e, ob6_e]
/-- what a law is worth, by both -/
theorem worth_c (hl : ∀ l, l < 6 → ml l = lt l) {ar mc mv mk mt ms mu : Nat → Int32} {tx : Nat} {CS : List Cl} (hX : (XS CS).length ≤ 240) (hYl : (YS CS).length ≤ 240) (hC : CS.length ≤ 80) (htx : tx ≤ 4) (hk : mk tx = nI CS.length) (hr : Rd cs ar 0 (XS CS)) (hw : WR mt ms mu (140 * tx) 0 CS) (hc : Rd tc mc (520 * tx) (YS CS)) (hv : Rd tv mv (520 * tx) (YS CS)) (hok : ∀ C, C ∈ CS → OKC C) (st st2 : Nat → Int32) : ∃ v st' st2', f_X2_worth lt ar 241 st (nI (XS CS).length) = some (v, st') ∧ f_X12_worthOf mc mv mk mt ms mu ml st2 (nI tx) = some (v, st2') := by
  have hf := fu_le
  obtain ⟨v, st', st2', e1, e2⟩ := wl_l hl hX htx hC hk CS 0 0 (140 * tx) st st2 fu fu hr (by omega) hw (by omega) rfl hc hv (by omega) hok (by omega) (by omega)
  refine ⟨v, st', st2', e1, ?_⟩
  have e : f_X12_worthOf mc mv mk mt ms mu ml st2 (nI tx) = f_X12_worthOf_6 mc mv mk mt ms mu ml fu st2 (nI tx) (nI (140 * tx)) := by
    simp (disch := omega) only [f_X12_worthOf, b_X12_worthOf_0, neg_nI, lit_nI, nI_add, pk_mul, pk_sub, nI_clamp, inB_nI, gd_true, bnd_def, nI_leI, nI_ltI, nI_eq, nI_mI, mI_nI, nle_T, nle_F, nlt_T, nlt_F, neq_T, neq_F, ↓reduceIte, Nat.add_zero, Nat.zero_add, Nat.mul_zero, Nat.reduceAdd, Nat.reduceMul, Nat.reduceSub, ob1_e, ob2_e, ob3_e, ob4_e, ob6_e]
  rw [e]
  exact e2
end WO
end
section
/-! how warmth rises by a law: the same by both -/
def cl9 (v : Int32) : Int32 := mx (-9) (mn 9 v)
def L6 (lt : Nat → Int32) (a b c d e f : Int32) : Nat → Int32 := upd (upd (upd (upd (upd (upd lt 0 a) 1 b) 2 c) 3 d) 4 e) 5 f
theorem L6_eq (lt lt2 : Nat → Int32) (a b c d e f : Int32) : ∀ l, l < 6 → L6 lt2 a b c d e f l = L6 lt a b c d e f l := by
  intro l hl
  have h : l = 0 ∨ l = 1 ∨ l = 2 ∨ l = 3 ∨ l = 4 ∨ l = 5 := by omega
  rcases h with rfl | rfl | rfl | rfl | rfl | rfl <;> rfl
def LawK (k : Nat) (arK ll mc mv mk mt ms mu : Nat → Int32) : Prop := ∃ CS : List Cl, (∀ C, C ∈ CS → OKC C) ∧ (XS CS).length ≤ 240 ∧ (YS CS).length ≤ 240 ∧ CS.length ≤ 80 ∧ ll k = nI (XS CS).length ∧ Rd cs arK 0 (XS CS) ∧ mk k = nI CS.length ∧ WR mt ms mu (140 * k) 0 CS ∧ Rd tc mc (520 * k) (YS CS) ∧ Rd tv mv (520 * k) (YS CS)
def pick (k : Nat) (l0 l1 l2 l3 : Nat → Int32) : Nat → Int32 := if k = 0 then l0 else if k = 1 then l1 else if k = 2 then l2 else l3
/-- the laws of both -/
def RLw (N : Nat) (ll l0 l1 l2 l3 mc mv mk mt ms mu : Nat → Int32) : Prop := N ≤ 4 ∧ ∀ k, k < N → LawK k (pick k l0 l1 l2 l3) ll mc mv mk mt ms mu
noncomputable def Rl (lh : Int32) (ll l0 l1 l2 l3 : Nat → Int32) : R6 := fun a b c d e f => match f_X2_riseBy lh ll l0 l1 l2 l3 (fun _ => nI 0) (fun _ => nI 0) a b c d e f with
  | some (r, _, _) => r
  | none => nI 0
theorem cl9_r (v : Int32) : -9 ≤ (cl9 v).toInt ∧ (cl9 v).toInt ≤ 9 := by
  have e1 : (-9 : Int32).toInt = -9 := by decide
  have e2 : (9 : Int32).toInt = 9 := by decide
  unfold cl9 mx mn
  by_cases h1 : v < 9
  · rw [if_pos h1]
    by_cases h2 : (-9 : Int32) < v
    · rw [if_pos h2]
      rw [lt32] at h1 h2
      omega
    · rw [if_neg h2]; omega
  · rw [if_neg h1, if_pos (by decide)]; omega
section R2
variable {ll l0 l1 l2 l3 mc mv mk mt ms mu : Nat → Int32}
theorem by_law {k : Nat} (hk : k < 4) (h : LawK k (pick k l0 l1 l2 l3) ll mc mv mk mt ms mu) (lt st lt2 st2 : Nat → Int32) (a b c d e f : Int32) : ∃ v lt' st' st2', f_X2_riseBy (nI k) ll l0 l1 l2 l3 lt st a b c d e f = some (cl9 v, lt', st') ∧ f_X12_worthOf mc mv mk mt ms mu (L6 lt2 a b c d e f) st2 (nI k) = some (v, st2') := by
  obtain ⟨CS, h1, h2, h3, h4, h5, h6, h7, h8, h9, h10⟩ := h
  obtain ⟨v, st', st2', x, y⟩ := worth_c (L6_eq lt lt2 a b c d e f) h2 h3 h4 (by omega) h7 h6 h8 h9 h10 h1 st st2
  rw [← h5] at x
  refine ⟨v, L6 lt a b c d e f, st', st2', ?_, y⟩
  have hk4 : k = 0 ∨ k = 1 ∨ k = 2 ∨ k = 3 := by omega
  rcases hk4 with rfl | rfl | rfl | rfl
  · replace x : f_X2_worth (upd (upd (upd (upd (upd (upd lt 0 a) 1 b) 2 c) 3 d) 4 e) 5 f) l0 241 st (ll 0) = some (v, st') := x
    simp (disch := omega) only [f_X2_riseBy, b_X2_riseBy_0, b_X2_riseBy_99, x, neg_nI, lit_nI, nI_add, pk_mul, pk_sub, nI_clamp, inB_nI, gd_true, bnd_def, nI_leI, nI_ltI, nI_eq, nI_mI, mI_nI, nle_T, nle_F, nlt_T, nlt_F, neq_T, neq_F, ↓reduceIte, Nat.add_zero, Nat.zero_add, Nat.mul_zero, Nat.reduceAdd, Nat.reduceMul, Nat.reduceSub, ob1_e, ob2_e, ob3_e, ob4_e, ob6_e]
    rfl
  · replace x : f_X2_worth (upd (upd (upd (upd (upd (upd lt 0 a) 1 b) 2 c) 3 d) 4 e) 5 f) l1 241 st (ll 1) = some (v, st') := x
    simp (disch := omega) only [f_X2_riseBy, b_X2_riseBy_0, b_X2_riseBy_99, x, neg_nI, lit_nI, nI_add, pk_mul, pk_sub, nI_clamp, inB_nI, gd_true, bnd_def, nI_leI, nI_ltI, nI_eq, nI_mI, mI_nI, nle_T, nle_F, nlt_T, nlt_F, neq_T, neq_F, ↓reduceIte, Nat.add_zero, Nat.zero_add, Nat.mul_zero, Nat.reduceAdd, Nat.reduceMul, Nat.reduceSub, ob1_e, ob2_e, ob3_e, ob4_e, ob6_e]
    rfl
  · replace x : f_X2_worth (upd (upd (upd (upd (upd (upd lt 0 a) 1 b) 2 c) 3 d) 4 e) 5 f) l2 241 st (ll 2) = some (v, st') := x
    simp (disch := omega) only [f_X2_riseBy, b_X2_riseBy_0, b_X2_riseBy_99, x, neg_nI, lit_nI, nI_add, pk_mul, pk_sub, nI_clamp, inB_nI, gd_true, bnd_def, nI_leI, nI_ltI, nI_eq, nI_mI, mI_nI, nle_T, nle_F, nlt_T, nlt_F, neq_T, neq_F, ↓reduceIte, Nat.add_zero, Nat.zero_add, Nat.mul_zero, Nat.reduceAdd, Nat.reduceMul, Nat.reduceSub, ob1_e, ob2_e, ob3_e, ob4_e, ob6_e]
    rfl
  · replace x : f_X2_worth (upd (upd (upd (upd (upd (upd lt 0 a) 1 b) 2 c) 3 d) 4 e) 5 f) l3 241 st (ll 3) = some (v, st') := x
    simp (disch := omega) only [f_X2_riseBy, b_X2_riseBy_0, b_X2_riseBy_99, x, neg_nI, lit_nI, nI_add, pk_mul, pk_sub, nI_clamp, inB_nI, gd_true, bnd_def, nI_leI, nI_ltI, nI_eq, nI_mI, mI_nI, nle_T, nle_F, nlt_T, nlt_F, neq_T, neq_F, ↓reduceIte, Nat.add_zero, Nat.zero_add, Nat.mul_zero, Nat.reduceAdd, Nat.reduceMul, Nat.reduceSub, ob1_e, ob2_e, ob3_e, ob4_e, ob6_e]
    rfl
theorem by_none (lt st : Nat → Int32) (a b c d e f : Int32) : f_X2_riseBy (mI 1) ll l0 l1 l2 l3 lt st a b c d e f = some (cl9 (((a / nI 2 + nI 2 * d) - e / nI 3) - b / nI 4), lt, st) := by
  unfold f_X2_riseBy b_X2_riseBy_0 b_X2_riseBy_99
  rw [if_pos (show mI 1 = (-1 : Int32) from rfl)]
  simp only [bnd_def]
  rfl
theorem by_noneY (lt st : Nat → Int32) (a b c d e f : Int32) (hd : d = nI 0 ∨ d = nI 1) : f_X12_riseBy (mI 1) mc mv mk mt ms mu lt st a b c d e f = some (cl9 (((a / nI 2 + nI 2 * d) - e / nI 3) - b / nI 4), lt, st) := by
  have z0 : nI 2 * nI 0 = nI 0 := by decide
  have z1 : nI 2 * nI 1 = nI 2 := by decide
  rcases hd with rfl | rfl
  · unfold f_X12_riseBy b_X12_riseBy_0
    rw [if_pos (show nI 0 = (0 : Int32) from rfl), z0]
    unfold b_X12_riseBy_13 b_X12_riseBy_96
    simp only [bnd_def]
    rw [if_pos (show mI 1 = (-1 : Int32) from rfl)]
    rfl
  · unfold f_X12_riseBy b_X12_riseBy_0
    rw [if_neg (by decide), z1]
    unfold b_X12_riseBy_13 b_X12_riseBy_96
    simp only [bnd_def]
    rw [if_pos (show mI 1 = (-1 : Int32) from rfl)]
    rfl
theorem by_lawY {k : Nat} (hk : k < 4) (lt st : Nat → Int32) (a b c d e f v : Int32) (st' : Nat → Int32) (hd : d = nI 0 ∨ d = nI 1) (y : f_X12_worthOf mc mv mk mt ms mu (L6 lt a b c d e f) st (nI k) = some (v, st')) : f_X12_riseBy (nI k) mc mv mk mt ms mu lt st a b c d e f = some (cl9 v, L6 lt a b c d e f, st') := by
  have hk1 : ¬ (nI k = (-1 : Int32)) := nI_nm (by omega)
  rcases hd with rfl | rfl
  · unfold f_X12_riseBy b_X12_riseBy_0
    rw [if_pos (show nI 0 = (0 : Int32) from rfl)]
    unfold b_X12_riseBy_13
    simp only [bnd_def]
    rw [if_neg hk1]
    replace y : f_X12_worthOf mc mv mk mt ms mu (upd (upd (upd (upd (upd (upd lt 0 a) 1 b) 2 c) 3 (nI 0)) 4 e) 5 f) st (nI k) = some (v, st') := y
    simp (disch := omega) only [b_X12_riseBy_69, b_X12_riseBy_96, y, neg_nI, lit_nI, nI_add, pk_mul, pk_sub, nI_clamp, inB_nI, gd_true, bnd_def, nI_leI, nI_ltI, nI_eq, nI_mI, mI_nI, nle_T, nle_F, nlt_T, nlt_F, neq_T, neq_F, ↓reduceIte, Nat.add_zero, Nat.zero_add, Nat.mul_zero, Nat.reduceAdd, Nat.reduceMul, Nat.reduceSub, ob1_e, ob2_e, ob3_e, ob4_e, ob6_e]
    rfl
  · unfold f_X12_riseBy b_X12_riseBy_0
    rw [if_neg (by decide)]
    unfold b_X12_riseBy_13
    simp only [bnd_def]
    rw [if_neg hk1]
    replace y : f_X12_worthOf mc mv mk mt ms mu (upd (upd (upd (upd (upd (upd lt 0 a) 1 b) 2 c) 3 (nI 1)) 4 e) 5 f) st (nI k) = some (v, st') := y
    simp (disch := omega) only [b_X12_riseBy_69, b_X12_riseBy_96, y, neg_nI, lit_nI, nI_add, pk_mul, pk_sub, nI_clamp, inB_nI, gd_true, bnd_def, nI_leI, nI_ltI, nI_eq, nI_mI, mI_nI, nle_T, nle_F, nlt_T, nlt_F, neq_T, neq_F, ↓reduceIte, Nat.add_zero, Nat.zero_add, Nat.mul_zero, Nat.reduceAdd, Nat.reduceMul, Nat.reduceSub, ob1_e, ob2_e, ob3_e, ob4_e, ob6_e]
    rfl
/-- the law that holds: none, or one of those that there are -/
def HL (N : Nat) (lh : Int32) : Prop := lh = mI 1 ∨ ∃ k, k < N ∧ lh = nI k
theorem rise_all {N : Nat} {lh : Int32} (h : RLw N ll l0 l1 l2 l3 mc mv mk mt ms mu) (hh : HL N lh) : RiseX (Rl lh ll l0 l1 l2 l3) lh ll l0 l1 l2 l3 ∧ RiseY (Rl lh ll l0 l1 l2 l3) lh mc mv mk mt ms mu ∧ RiseB (Rl lh ll l0 l1 l2 l3) := by
  obtain ⟨h4, h⟩ := h
  rcases hh with rfl | ⟨k, hk, rfl⟩
  · have eR : ∀ a b c d e f, Rl (mI 1) ll l0 l1 l2 l3 a b c d e f = cl9 (((a / nI 2 + nI 2 * d) - e / nI 3) - b / nI 4) := by
      intro a b c d e f
      unfold Rl
      rw [by_none]
    refine ⟨fun lt st a b c d e f => ⟨lt, st, by rw [eR]; exact by_none lt st a b c d e f⟩, fun lt st a b c d e f hd => ⟨lt, st, by rw [eR]; exact by_noneY lt st a b c d e f hd⟩, fun a b c d e f => by rw [eR]; exact cl9_r _⟩
  · have hl := h k hk
    have eR : ∀ (lt2 st2 : Nat → Int32) a b c d e f v st2', f_X12_worthOf mc mv mk mt ms mu (L6 lt2 a b c d e f) st2 (nI k) = some (v, st2') → Rl (nI k) ll l0 l1 l2 l3 a b c d e f = cl9 v := by
      intro lt2 st2 a b c d e f v st2' y
      obtain ⟨v0, lt', st', st3, x0, y0⟩ := by_law (by omega) hl (fun _ => nI 0) (fun _ => nI 0) lt2 st2 a b c d e f
      unfold Rl
      rw [x0]
      rw [y] at y0
      have := congrArg Prod.fst (Option.some.inj y0)
      show cl9 v0 = cl9 v
      rw [show v = v0 from this]
    refine ⟨fun lt st a b c d e f => ?_, fun lt st a b c d e f hd => ?_, fun a b c d e f => ?_⟩
    · obtain ⟨v, lt', st', st3, x, y⟩ := by_law (by omega) hl lt st lt st a b c d e f
      exact ⟨lt', st', by rw [eR lt st a b c d e f v st3 y]; exact x⟩
    · obtain ⟨v, lt', st', st3, x, y⟩ := by_law (by omega) hl lt st lt st a b c d e f
      exact ⟨_, st3, by rw [eR lt st a b c d e f v st3 y]; exact by_lawY (by omega) lt st a b c d e f v st3 hd y⟩
    · obtain ⟨v, lt', st', st3, x, y⟩ := by_law (by omega) hl (fun _ => nI 0) (fun _ => nI 0) (fun _ => nI 0) (fun _ => nI 0) a b c d e f
      rw [eR _ _ a b c d e f v st3 y]
      exact cl9_r _
end R2
end
section
/-! a law is taken by both; a fault is told by both -/
theorem WR_cong {tf sf st tf' sf' st' : Nat → Int32} : ∀ (A : List Cl) (p o : Nat), WR tf sf st p o A → (∀ i, p ≤ i → i < p + A.length → tf' i = tf i ∧ sf' i = sf i ∧ st' i = st i) → WR tf' sf' st' p o A
  | [], _, _, _, _ => trivial
  | D :: A, p, o, h, hi => by
    have hl : (D :: A).length = A.length + 1 := rfl
    rw [hl] at hi
    obtain ⟨⟨h1, h2, h3⟩, h4⟩ := h
    obtain ⟨j1, j2, j3⟩ := hi p (by omega) (by omega)
    exact ⟨⟨by rw [j1, h1], by rw [j2, h2], by rw [j3, h3]⟩, WR_cong A (p + 1) _ h4 (fun i a b => hi i (by omega) (by omega))⟩
theorem LawK_frm {k tx : Nat} {arK ll mc mv mo mk mt ms mu mc2 mv2 mo2 mk2 mt2 ms2 mu2 : Nat → Int32} (hk : k < tx) (h : LawK k arK ll mc mv mk mt ms mu) (hF : FRM tx mc mv mo mk mt ms mu mc2 mv2 mo2 mk2 mt2 ms2 mu2) : LawK k arK ll mc2 mv2 mk2 mt2 ms2 mu2 := by
  obtain ⟨CS, h1, h2, h3, h4, h5, h6, h7, h8, h9, h10⟩ := h
  obtain ⟨f1, f2, f3⟩ := hF
  refine ⟨CS, h1, h2, h3, h4, h5, h6, by rw [(f2 k (by omega)).2, h7], WR_cong CS _ _ h8 (fun i a b => f3 i (Or.inl (by omega))), Rd_cong _ _ h9 (fun j a b => (f1 j (Or.inl (by omega))).1), Rd_cong _ _ h10 (fun j a b => (f1 j (Or.inl (by omega))).2)⟩
theorem RLw_frm {N tx : Nat} {ll l0 l1 l2 l3 mc mv mo mk mt ms mu mc2 mv2 mo2 mk2 mt2 ms2 mu2 : Nat → Int32} (hN : N ≤ tx) (h : RLw N ll l0 l1 l2 l3 mc mv mk mt ms mu) (hF : FRM tx mc mv mo mk mt ms mu mc2 mv2 mo2 mk2 mt2 ms2 mu2) : RLw N ll l0 l1 l2 l3 mc2 mv2 mk2 mt2 ms2 mu2 := ⟨h.1, fun k hk => LawK_frm (by omega) (h.2 k hk) hF⟩
/-- what the text of a law does, reading and taking -/
noncomputable def hd_takeLaw (tape_bytes : Nat → Int32) (llT : Nat → Int32) (tape_length : Int32) (tape_at : Int32) (lr_size : Int32) (lr_code : Nat → Int32) (laws_size : Int32) (laws_lengths : Nat → Int32) (laws_c0 : Nat → Int32) (laws_c1 : Nat → Int32) (laws_c2 : Nat → Int32) (laws_c3 : Nat → Int32) : Option (Int32 × Int32 × Int32 × Int32 × (Nat → Int32) × Int32 × (Nat → Int32) × (Nat → Int32) × (Nat → Int32) × (Nat → Int32) × (Nat → Int32)) :=
  ob1 (f_X2_isFull laws_size) fun r_1 =>
  if r_1 = (0 : Int32) then
    ob4 (f_X1_readsAll tape_length tape_bytes llT tape_at lr_size lr_code) fun r_3 tape_at_4 lr_size_5 lr_code_6 =>
    if r_3 = (0 : Int32) then
      some ((-1 : Int32), tape_length, tape_at_4, lr_size_5, lr_code_6, laws_size, laws_lengths, laws_c0, laws_c1, laws_c2, laws_c3)
    else
      ob6 (f_X2_add lr_code_6 241 laws_size laws_lengths laws_c0 laws_c1 laws_c2 laws_c3 lr_size_5) fun laws_size_8 laws_lengths_9 laws_c0_10 laws_c1_11 laws_c2_12 laws_c3_13 =>
      some ((laws_size_8 - (1 : Int32)), (0 : Int32), tape_at_4, lr_size_5, lr_code_6, laws_size_8, laws_lengths_9, laws_c0_10, laws_c1_11, laws_c2_12, laws_c3_13)
  else
    some ((-1 : Int32), tape_length, tape_at, lr_size, lr_code, laws_size, laws_lengths, laws_c0, laws_c1, laws_c2, laws_c3)
section TL
variable {n : Nat} {t u llT plT pmT puT : Nat → Int32}
theorem full_n {N : Nat} (h : N < 4) : f_X2_isFull (nI N) = some (nI 0) := by
  simp (disch := omega) only [f_X2_isFull, b_X2_isFull_0, neg_nI, lit_nI, nI_add, pk_mul, pk_sub, nI_clamp, inB_nI, gd_true, bnd_def, nI_leI, nI_ltI, nI_eq, nI_mI, mI_nI, nle_T, nle_F, nlt_T, nlt_F, neq_T, neq_F, ↓reduceIte, Nat.add_zero, Nat.zero_add, Nat.mul_zero, Nat.reduceAdd, Nat.reduceMul, Nat.reduceSub, ob1_e, ob2_e, ob3_e, ob4_e, ob6_e]
theorem full_y : f_X2_isFull (nI 4) = some (nI 1) := by
  simp (disch := omega) only [f_X2_isFull, b_X2_isFull_0, neg_nI, lit_nI, nI_add, pk_mul, pk_sub, nI_clamp, inB_nI, gd_true, bnd_def, nI_leI, nI_ltI, nI_eq, nI_mI, mI_nI, nle_T, nle_F, nlt_T, nlt_F, neq_T, neq_F, ↓reduceIte, Nat.add_zero, Nat.zero_add, Nat.mul_zero, Nat.reduceAdd, Nat.reduceMul, Nat.reduceSub, ob1_e, ob2_e, ob3_e, ob4_e, ob6_e]
theorem add_c {N len : Nat} (h : N < 4) (hl : len ≤ 241) (lc ll l0 l1 l2 l3 : Nat → Int32) : f_X2_add lc 241 (nI N) ll l0 l1 l2 l3 (nI len) = some (nI (N + 1), upd ll N (nI len), (if N = 0 then va_cpy lc l0 0 0 len else l0), (if N = 1 then va_cpy lc l1 0 0 len else l1), (if N = 2 then va_cpy lc l2 0 0 len else l2), (if N = 3 then va_cpy lc l3 0 0 len else l3)) := by
  have hN : N = 0 ∨ N = 1 ∨ N = 2 ∨ N = 3 := by omega
  rcases hN with rfl | rfl | rfl | rfl
  · simp (disch := omega) only [f_X2_add, b_X2_add_0, full_n, spB_c, neg_nI, lit_nI, nI_add, pk_mul, pk_sub, nI_clamp, inB_nI, gd_true, bnd_def, nI_leI, nI_ltI, nI_eq, nI_mI, mI_nI, nle_T, nle_F, nlt_T, nlt_F, neq_T, neq_F, ↓reduceIte, Nat.add_zero, Nat.zero_add, Nat.mul_zero, Nat.reduceAdd, Nat.reduceMul, Nat.reduceSub, ob1_e, ob2_e, ob3_e, ob4_e, ob6_e]
  · simp (disch := omega) only [f_X2_add, b_X2_add_0, full_n, spB_c, neg_nI, lit_nI, nI_add, pk_mul, pk_sub, nI_clamp, inB_nI, gd_true, bnd_def, nI_leI, nI_ltI, nI_eq, nI_mI, mI_nI, nle_T, nle_F, nlt_T, nlt_F, neq_T, neq_F, ↓reduceIte, Nat.add_zero, Nat.zero_add, Nat.mul_zero, Nat.reduceAdd, Nat.reduceMul, Nat.reduceSub, ob1_e, ob2_e, ob3_e, ob4_e, ob6_e]
  · simp (disch := omega) only [f_X2_add, b_X2_add_0, full_n, spB_c, neg_nI, lit_nI, nI_add, pk_mul, pk_sub, nI_clamp, inB_nI, gd_true, bnd_def, nI_leI, nI_ltI, nI_eq, nI_mI, mI_nI, nle_T, nle_F, nlt_T, nlt_F, neq_T, neq_F, ↓reduceIte, Nat.add_zero, Nat.zero_add, Nat.mul_zero, Nat.reduceAdd, Nat.reduceMul, Nat.reduceSub, ob1_e, ob2_e, ob3_e, ob4_e, ob6_e]
  · simp (disch := omega) only [f_X2_add, b_X2_add_0, full_n, spB_c, neg_nI, lit_nI, nI_add, pk_mul, pk_sub, nI_clamp, inB_nI, gd_true, bnd_def, nI_leI, nI_ltI, nI_eq, nI_mI, mI_nI, nle_T, nle_F, nlt_T, nlt_F, neq_T, neq_F, ↓reduceIte, Nat.add_zero, Nat.zero_add, Nat.mul_zero, Nat.reduceAdd, Nat.reduceMul, Nat.reduceSub, ob1_e, ob2_e, ob3_e, ob4_e, ob6_e]
/-- a law is taken -/
theorem s_takeLaw (hn : n ≤ 240) (h : RT n t u) (tb : LT6 llT) {N : Nat} {ll l0 l1 l2 l3 mc mv mk mt ms mu : Nat → Int32} (hL : RLw N ll l0 l1 l2 l3 mc mv mk mt ms mu) (x1 x2 y1 y2 y3 y4 : Int32) (lc mo : Nat → Int32) (hN : N < 4) : ∃ r N' n' a' s' lc' ll' c0 c1 c2 c3 p1 p2 p3 p4 mc' mv' mo' mk' mt' ms' mu', hd_takeLaw t llT (nI n) x1 x2 lc (nI N) ll l0 l1 l2 l3 = some (r, nI n', a', s', lc', nI N', ll', c0, c1, c2, c3) ∧ f_X12_readLaw (nI n) u y1 y2 y3 y4 mc mv mo mk mt ms mu (nI N) = some (p1, p2, p3, p4, nI N, mc', mv', mo', mk', mt', ms', mu') ∧ RLw N' ll' c0 c1 c2 c3 mc' mv' mk' mt' ms' mu' ∧ ((p1 = mI 1 ∧ r = nI N ∧ N' = N + 1 ∧ n' = 0) ∨ (p1 ≠ mI 1 ∧ r = mI 1 ∧ N' = N ∧ n' = n)) := by
  rcases s_readLaw hn h tb (tx := N) (by omega) x1 x2 y1 y2 y3 y4 lc mc mv mo mk mt ms mu with ⟨CS, mo2, mk2, mt2, ms2, mu2, g1, g2, g3, g4, g5, g6, g7, g8, g9⟩ | ⟨a, z1, z2, p, q, mc2, mv2, mo2, mk2, mt2, ms2, mu2, g1, g2, g3, g4⟩
  · refine ⟨nI N, N + 1, 0, nI n, nI (XS CS).length, ap cs lc 0 (XS CS), upd ll N (nI (XS CS).length), (if N = 0 then va_cpy (ap cs lc 0 (XS CS)) l0 0 0 (XS CS).length else l0), (if N = 1 then va_cpy (ap cs lc 0 (XS CS)) l1 0 0 (XS CS).length else l1), (if N = 2 then va_cpy (ap cs lc 0 (XS CS)) l2 0 0 (XS CS).length else l2), (if N = 3 then va_cpy (ap cs lc 0 (XS CS)) l3 0 0 (XS CS).length else l3), _, _, _, _, _, _, _, _, _, _, _, ?_, g6, ⟨by omega, fun k hk => ?_⟩, Or.inl ⟨rfl, rfl, rfl, rfl⟩⟩
    · unfold hd_takeLaw
      rw [full_n hN, ob1_e, if_pos (show nI 0 = (0 : Int32) from rfl), g5, ob4_e, if_neg (show ¬ nI 1 = (0 : Int32) by decide), add_c hN (by omega), ob6_e, lit_nI, pk_sub (by omega), Nat.add_sub_cancel]
      rfl
    · by_cases e : k = N
      · subst e
        refine ⟨CS, g1, g2, g3, g4, upd_y rfl, ?_, g7, g8, Rd_ap _ _ _ _, Rd_ap _ _ _ _⟩
        have hr := Rd_ap cs (XS CS) lc 0
        refine Rd_cong _ _ hr (fun j a b => ?_)
        have hk4 : k = 0 ∨ k = 1 ∨ k = 2 ∨ k = 3 := by omega
        rcases hk4 with rfl | rfl | rfl | rfl <;> exact cpy0 (by omega)
      · have hl := LawK_frm (tx := N) (by omega) (hL.2 k (by omega)) g9
        obtain ⟨CS', h1, h2, h3, h4, h5, h6, h7⟩ := hl
        refine ⟨CS', h1, h2, h3, h4, by rw [upd_n e]; exact h5, ?_, h7⟩
        have hp : pick k (if N = 0 then va_cpy (ap cs lc 0 (XS CS)) l0 0 0 (XS CS).length else l0) (if N = 1 then va_cpy (ap cs lc 0 (XS CS)) l1 0 0 (XS CS).length else l1) (if N = 2 then va_cpy (ap cs lc 0 (XS CS)) l2 0 0 (XS CS).length else l2) (if N = 3 then va_cpy (ap cs lc 0 (XS CS)) l3 0 0 (XS CS).length else l3) = pick k l0 l1 l2 l3 := by
          unfold pick
          by_cases k0 : k = 0
          · rw [if_pos k0, if_pos k0, if_neg (by omega)]
          rw [if_neg k0, if_neg k0]
          by_cases k1 : k = 1
          · rw [if_pos k1, if_pos k1, if_neg (by omega)]
          rw [if_neg k1, if_neg k1]
          by_cases k2 : k = 2
          · rw [if_pos k2, if_pos k2, if_neg (by omega)]
          · omega
        rw [hp]
        exact h6
  · refine ⟨mI 1, N, n, nI a, z1, z2, ll, l0, l1, l2, l3, _, _, _, _, _, _, _, _, _, _, _, ?_, g3, RLw_frm (Nat.le_refl _) hL g4, Or.inr ⟨nI_nm (by omega), rfl, rfl, rfl⟩⟩
    · unfold hd_takeLaw
      rw [full_n hN, ob1_e, if_pos (show nI 0 = (0 : Int32) from rfl), g2, ob4_e, if_pos (show nI 0 = (0 : Int32) from rfl)]
      rfl
end TL
end
