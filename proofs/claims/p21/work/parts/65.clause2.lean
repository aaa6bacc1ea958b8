/-! clauses of a law by both: the whole clause -/
section CM
variable {n : Nat} {t u llT : Nat → Int32}
theorem frm_b {tx p : Nat} {code value codes cl tf sf st code2 value2 codes2 : Nat → Int32} (g6 : ∀ i, (i < 520 * tx ∨ 520 * tx + 520 ≤ i) → code2 i = code i ∧ value2 i = value i) (g7 : ∀ i, i ≠ tx → codes2 i = codes i) (hp : 140 * tx ≤ p ∧ p < 140 * tx + 140) (v1 v2 v3 v4 : Int32) : FRM tx code value codes cl tf sf st code2 value2 codes2 (upd cl tx v1) (upd tf p v2) (upd sf p v3) (upd st p v4) := by
  refine ⟨g6, fun i hi => ?_, fun i hi => ?_⟩
  · rw [g7 i hi, upd_n hi]; exact ⟨rfl, rfl⟩
  · rw [upd_n (by omega), upd_n (by omega), upd_n (by omega)]; exact ⟨rfl, rfl, rfl⟩
theorem frm_r {tx : Nat} {code value codes cl tf sf st : Nat → Int32} : FRM tx code value codes cl tf sf st code value codes cl tf sf st := ⟨fun _ _ => ⟨rfl, rfl⟩, fun _ _ => ⟨rfl, rfl⟩, fun _ _ => ⟨rfl, rfl, rfl⟩⟩
theorem cs_c {a : Nat} {c : Int32} (h : cIs n a c t u) : (f_X1_comparison c = some (mI 1) ∧ f_X12_isSign c = some (nI 0)) ∨ ∃ r, f_X1_comparison c = some r ∧ (r = mI 1) = False ∧ f_X12_isSign c = some (nI 1) := by
  rcases h with ⟨rfl, _⟩ | ⟨b, b0, b1, b2, rfl, _⟩
  · left
    constructor
    · simp (disch := omega) only [f_X1_comparison, b_X1_comparison_0, neg_nI, lit_nI, nI_add, pk_mul, pk_sub, nI_clamp, inB_nI, gd_true, bnd_def, nI_leI, nI_ltI, nI_eq, nI_mI, mI_nI, nle_T, nle_F, nlt_T, nlt_F, neq_T, neq_F, ↓reduceIte, Nat.add_zero, Nat.zero_add, Nat.mul_zero, Nat.reduceAdd, Nat.reduceMul, Nat.reduceSub, ob1_e, ob2_e, ob3_e, ob4_e, ob6_e]
    · simp (disch := omega) only [f_X12_isSign, b_X12_isSign_0, b_X12_isSign_18, neg_nI, lit_nI, nI_add, pk_mul, pk_sub, nI_clamp, inB_nI, gd_true, bnd_def, nI_leI, nI_ltI, nI_eq, nI_mI, mI_nI, nle_T, nle_F, nlt_T, nlt_F, neq_T, neq_F, ↓reduceIte, Nat.add_zero, Nat.zero_add, Nat.mul_zero, Nat.reduceAdd, Nat.reduceMul, Nat.reduceSub, ob1_e, ob2_e, ob3_e, ob4_e, ob6_e]
  by_cases q6 : b = 61
  · subst q6
    right
    refine ⟨mI 6, ?_, eq_false (by decide), ?_⟩
    · simp (disch := omega) only [f_X1_comparison, b_X1_comparison_0, neg_nI, lit_nI, nI_add, pk_mul, pk_sub, nI_clamp, inB_nI, gd_true, bnd_def, nI_leI, nI_ltI, nI_eq, nI_mI, mI_nI, nle_T, nle_F, nlt_T, nlt_F, neq_T, neq_F, ↓reduceIte, Nat.add_zero, Nat.zero_add, Nat.mul_zero, Nat.reduceAdd, Nat.reduceMul, Nat.reduceSub, ob1_e, ob2_e, ob3_e, ob4_e, ob6_e]
    · simp (disch := omega) only [f_X12_isSign, b_X12_isSign_0, b_X12_isSign_18, neg_nI, lit_nI, nI_add, pk_mul, pk_sub, nI_clamp, inB_nI, gd_true, bnd_def, nI_leI, nI_ltI, nI_eq, nI_mI, mI_nI, nle_T, nle_F, nlt_T, nlt_F, neq_T, neq_F, ↓reduceIte, Nat.add_zero, Nat.zero_add, Nat.mul_zero, Nat.reduceAdd, Nat.reduceMul, Nat.reduceSub, ob1_e, ob2_e, ob3_e, ob4_e, ob6_e]
  by_cases q7 : b = 60
  · subst q7
    right
    refine ⟨mI 7, ?_, eq_false (by decide), ?_⟩
    · simp (disch := omega) only [f_X1_comparison, b_X1_comparison_0, neg_nI, lit_nI, nI_add, pk_mul, pk_sub, nI_clamp, inB_nI, gd_true, bnd_def, nI_leI, nI_ltI, nI_eq, nI_mI, mI_nI, nle_T, nle_F, nlt_T, nlt_F, neq_T, neq_F, ↓reduceIte, Nat.add_zero, Nat.zero_add, Nat.mul_zero, Nat.reduceAdd, Nat.reduceMul, Nat.reduceSub, ob1_e, ob2_e, ob3_e, ob4_e, ob6_e]
    · simp (disch := omega) only [f_X12_isSign, b_X12_isSign_0, b_X12_isSign_18, neg_nI, lit_nI, nI_add, pk_mul, pk_sub, nI_clamp, inB_nI, gd_true, bnd_def, nI_leI, nI_ltI, nI_eq, nI_mI, mI_nI, nle_T, nle_F, nlt_T, nlt_F, neq_T, neq_F, ↓reduceIte, Nat.add_zero, Nat.zero_add, Nat.mul_zero, Nat.reduceAdd, Nat.reduceMul, Nat.reduceSub, ob1_e, ob2_e, ob3_e, ob4_e, ob6_e]
  by_cases q8 : b = 62
  · subst q8
    right
    refine ⟨mI 8, ?_, eq_false (by decide), ?_⟩
    · simp (disch := omega) only [f_X1_comparison, b_X1_comparison_0, neg_nI, lit_nI, nI_add, pk_mul, pk_sub, nI_clamp, inB_nI, gd_true, bnd_def, nI_leI, nI_ltI, nI_eq, nI_mI, mI_nI, nle_T, nle_F, nlt_T, nlt_F, neq_T, neq_F, ↓reduceIte, Nat.add_zero, Nat.zero_add, Nat.mul_zero, Nat.reduceAdd, Nat.reduceMul, Nat.reduceSub, ob1_e, ob2_e, ob3_e, ob4_e, ob6_e]
    · simp (disch := omega) only [f_X12_isSign, b_X12_isSign_0, b_X12_isSign_18, neg_nI, lit_nI, nI_add, pk_mul, pk_sub, nI_clamp, inB_nI, gd_true, bnd_def, nI_leI, nI_ltI, nI_eq, nI_mI, mI_nI, nle_T, nle_F, nlt_T, nlt_F, neq_T, neq_F, ↓reduceIte, Nat.add_zero, Nat.zero_add, Nat.mul_zero, Nat.reduceAdd, Nat.reduceMul, Nat.reduceSub, ob1_e, ob2_e, ob3_e, ob4_e, ob6_e]

  left
  constructor
  · simp (disch := omega) only [f_X1_comparison, b_X1_comparison_0, neg_nI, lit_nI, nI_add, pk_mul, pk_sub, nI_clamp, inB_nI, gd_true, bnd_def, nI_leI, nI_ltI, nI_eq, nI_mI, mI_nI, nle_T, nle_F, nlt_T, nlt_F, neq_T, neq_F, ↓reduceIte, Nat.add_zero, Nat.zero_add, Nat.mul_zero, Nat.reduceAdd, Nat.reduceMul, Nat.reduceSub, ob1_e, ob2_e, ob3_e, ob4_e, ob6_e]
  · simp (disch := omega) only [f_X12_isSign, b_X12_isSign_0, b_X12_isSign_18, neg_nI, lit_nI, nI_add, pk_mul, pk_sub, nI_clamp, inB_nI, gd_true, bnd_def, nI_leI, nI_ltI, nI_eq, nI_mI, mI_nI, nle_T, nle_F, nlt_T, nlt_F, neq_T, neq_F, ↓reduceIte, Nat.add_zero, Nat.zero_add, Nat.mul_zero, Nat.reduceAdd, Nat.reduceMul, Nat.reduceSub, ob1_e, ob2_e, ob3_e, ob4_e, ob6_e]
theorem clause_o (hn : n ≤ 240) (h : RT n t u) (tb : LT6 llT) {tx k s s' a : Nat} {lc code value codes cl tf sf st : Nat → Int32} (htx : tx ≤ 4) (hk : k < 140) (hcl : cl tx = nI k) (ha : a ≤ n) (hs : s ≤ a) (hs' : s' ≤ a) (hc : codes tx = nI s') : CLO n tx k s s' a lc code value codes cl tf sf st (f_X1_readsClause (nI n) t llT (nI a) (nI s) lc) (f_X12_clause (nI n) (nI tx) u (nI a) (mI 1) (nI 0) code value codes cl tf sf st) := by
  obtain ⟨a1, c, s1, s2, s3, s4, s5, s6, s7⟩ := sg_c hn h ha
  by_cases q1 : c = nI 121
  case neg =>
    refine Or.inr ⟨a1, nI s, lc, nI (a1 + 1 + 1), nI 0, code, value, codes, cl, tf, sf, st, s2, ?_, ?_, frm_r⟩
    · simp (disch := omega) only [f_X1_readsClause, b_X1_readsClause_0, f_X10_take, b_X10_take_0, s3, q1, neg_nI, lit_nI, nI_add, pk_mul, pk_sub, nI_clamp, inB_nI, gd_true, bnd_def, nI_leI, nI_ltI, nI_eq, nI_mI, mI_nI, nle_T, nle_F, nlt_T, nlt_F, neq_T, neq_F, ↓reduceIte, Nat.add_zero, Nat.zero_add, Nat.mul_zero, Nat.reduceAdd, Nat.reduceMul, Nat.reduceSub, ob1_e, ob2_e, ob3_e, ob4_e, ob6_e]
    · simp (disch := omega) only [f_X12_clause, b_X12_clause_0, s4, q1, bad_n, hcl, neg_nI, lit_nI, nI_add, pk_mul, pk_sub, nI_clamp, inB_nI, gd_true, bnd_def, nI_leI, nI_ltI, nI_eq, nI_mI, mI_nI, nle_T, nle_F, nlt_T, nlt_F, neq_T, neq_F, ↓reduceIte, Nat.add_zero, Nat.zero_add, Nat.mul_zero, Nat.reduceAdd, Nat.reduceMul, Nat.reduceSub, ob1_e, ob2_e, ob3_e, ob4_e, ob6_e]
      simp (disch := omega) only [b_X12_clause_40, neg_nI, lit_nI, nI_add, pk_mul, pk_sub, nI_clamp, inB_nI, gd_true, bnd_def, nI_leI, nI_ltI, nI_eq, nI_mI, mI_nI, nle_T, nle_F, nlt_T, nlt_F, neq_T, neq_F, ↓reduceIte, Nat.add_zero, Nat.zero_add, Nat.mul_zero, Nat.reduceAdd, Nat.reduceMul, Nat.reduceSub, ob1_e, ob2_e, ob3_e, ob4_e, ob6_e]
      simp (disch := omega) only [b_X12_clause_71, neg_nI, lit_nI, nI_add, pk_mul, pk_sub, nI_clamp, inB_nI, gd_true, bnd_def, nI_leI, nI_ltI, nI_eq, nI_mI, mI_nI, nle_T, nle_F, nlt_T, nlt_F, neq_T, neq_F, ↓reduceIte, Nat.add_zero, Nat.zero_add, Nat.mul_zero, Nat.reduceAdd, Nat.reduceMul, Nat.reduceSub, ob1_e, ob2_e, ob3_e, ob4_e, ob6_e]
  subst q1
  have hlt : a1 < n := by
    rcases s7 with ⟨e, _⟩ | ⟨_, _, _, _, _, e, _⟩
    · exact absurd e (nI_nm (by omega))
    · exact e
  obtain ⟨a2, c2, t1, t2, t3, t4, t5, t6, t7⟩ := sg_c hn h (a := a1 + 1) (by omega)
  by_cases q2 : c2 = nI 58
  case neg =>
    refine Or.inr ⟨a2, nI s, lc, nI (a2 + 1), nI 0, code, value, codes, cl, tf, sf, st, t2, ?_, ?_, frm_r⟩
    · simp (disch := omega) only [f_X1_readsClause, b_X1_readsClause_0, f_X10_take, b_X10_take_0, s3, t3, q2, neg_nI, lit_nI, nI_add, pk_mul, pk_sub, nI_clamp, inB_nI, gd_true, bnd_def, nI_leI, nI_ltI, nI_eq, nI_mI, mI_nI, nle_T, nle_F, nlt_T, nlt_F, neq_T, neq_F, ↓reduceIte, Nat.add_zero, Nat.zero_add, Nat.mul_zero, Nat.reduceAdd, Nat.reduceMul, Nat.reduceSub, ob1_e, ob2_e, ob3_e, ob4_e, ob6_e]
    · simp (disch := omega) only [f_X12_clause, b_X12_clause_0, s4, bad_n, hcl, neg_nI, lit_nI, nI_add, pk_mul, pk_sub, nI_clamp, inB_nI, gd_true, bnd_def, nI_leI, nI_ltI, nI_eq, nI_mI, mI_nI, nle_T, nle_F, nlt_T, nlt_F, neq_T, neq_F, ↓reduceIte, Nat.add_zero, Nat.zero_add, Nat.mul_zero, Nat.reduceAdd, Nat.reduceMul, Nat.reduceSub, ob1_e, ob2_e, ob3_e, ob4_e, ob6_e]
      simp (disch := omega) only [b_X12_clause_40, t4, q2, bad_n, neg_nI, lit_nI, nI_add, pk_mul, pk_sub, nI_clamp, inB_nI, gd_true, bnd_def, nI_leI, nI_ltI, nI_eq, nI_mI, mI_nI, nle_T, nle_F, nlt_T, nlt_F, neq_T, neq_F, ↓reduceIte, Nat.add_zero, Nat.zero_add, Nat.mul_zero, Nat.reduceAdd, Nat.reduceMul, Nat.reduceSub, ob1_e, ob2_e, ob3_e, ob4_e, ob6_e]
      simp (disch := omega) only [b_X12_clause_71, neg_nI, lit_nI, nI_add, pk_mul, pk_sub, nI_clamp, inB_nI, gd_true, bnd_def, nI_leI, nI_ltI, nI_eq, nI_mI, mI_nI, nle_T, nle_F, nlt_T, nlt_F, neq_T, neq_F, ↓reduceIte, Nat.add_zero, Nat.zero_add, Nat.mul_zero, Nat.reduceAdd, Nat.reduceMul, Nat.reduceSub, ob1_e, ob2_e, ob3_e, ob4_e, ob6_e]
  subst q2
  have hlt2 : a2 < n := by
    rcases t7 with ⟨e, _⟩ | ⟨_, _, _, _, _, e, _⟩
    · exact absurd e (nI_nm (by omega))
    · exact e
  obtain ⟨a3, c3, r1, r2, r3, r4, r5, r6, r7⟩ := sg_c hn h (a := a2 + 1) (by omega)
  have hX0 : f_X1_readsClause (nI n) t llT (nI a) (nI s) lc = (if c3 = nI 33 then b_X1_readsClause_46 (nI n) t llT (nI a3) (nI s) lc else if c3 = nI 40 then b_X1_readsClause_46 (nI n) t llT (nI a3) (nI s) lc else b_X1_readsClause_51 (nI n) t llT (nI a3) (nI s) lc (nI 0)) := by
    simp (disch := omega) only [f_X1_readsClause, b_X1_readsClause_0, f_X10_take, b_X10_take_0, s3, t3, r3, neg_nI, lit_nI, nI_add, pk_mul, pk_sub, nI_clamp, inB_nI, gd_true, bnd_def, nI_leI, nI_ltI, nI_eq, nI_mI, mI_nI, nle_T, nle_F, nlt_T, nlt_F, neq_T, neq_F, ↓reduceIte, Nat.add_zero, Nat.zero_add, Nat.mul_zero, Nat.reduceAdd, Nat.reduceMul, Nat.reduceSub, ob1_e, ob2_e, ob3_e, ob4_e, ob6_e]
  have hY0 : f_X12_clause (nI n) (nI tx) u (nI a) (mI 1) (nI 0) code value codes cl tf sf st = (if c3 = nI 33 then b_X12_clause_123 (nI n) (nI tx) u (nI a3) (mI 1) (nI 0) code value codes cl (upd tf (140 * tx + k) (nI s')) sf st (nI (140 * tx + k)) else if c3 = nI 40 then b_X12_clause_123 (nI n) (nI tx) u (nI a3) (mI 1) (nI 0) code value codes cl (upd tf (140 * tx + k) (nI s')) sf st (nI (140 * tx + k)) else b_X12_clause_128 (nI n) (nI tx) u (nI a3) (mI 1) (nI 0) code value codes cl (upd tf (140 * tx + k) (nI s')) sf st (nI (140 * tx + k)) (nI 0)) := by
    simp (disch := omega) only [f_X12_clause, b_X12_clause_0, s4, hcl, neg_nI, lit_nI, nI_add, pk_mul, pk_sub, nI_clamp, inB_nI, gd_true, bnd_def, nI_leI, nI_ltI, nI_eq, nI_mI, mI_nI, nle_T, nle_F, nlt_T, nlt_F, neq_T, neq_F, ↓reduceIte, Nat.add_zero, Nat.zero_add, Nat.mul_zero, Nat.reduceAdd, Nat.reduceMul, Nat.reduceSub, ob1_e, ob2_e, ob3_e, ob4_e, ob6_e]
    simp (disch := omega) only [b_X12_clause_40, t4, neg_nI, lit_nI, nI_add, pk_mul, pk_sub, nI_clamp, inB_nI, gd_true, bnd_def, nI_leI, nI_ltI, nI_eq, nI_mI, mI_nI, nle_T, nle_F, nlt_T, nlt_F, neq_T, neq_F, ↓reduceIte, Nat.add_zero, Nat.zero_add, Nat.mul_zero, Nat.reduceAdd, Nat.reduceMul, Nat.reduceSub, ob1_e, ob2_e, ob3_e, ob4_e, ob6_e]
    simp (disch := omega) only [b_X12_clause_71, r4, r6, hc, neg_nI, lit_nI, nI_add, pk_mul, pk_sub, nI_clamp, inB_nI, gd_true, bnd_def, nI_leI, nI_ltI, nI_eq, nI_mI, mI_nI, nle_T, nle_F, nlt_T, nlt_F, neq_T, neq_F, ↓reduceIte, Nat.add_zero, Nat.zero_add, Nat.mul_zero, Nat.reduceAdd, Nat.reduceMul, Nat.reduceSub, ob1_e, ob2_e, ob3_e, ob4_e, ob6_e]
  rw [hX0, hY0]
  have hcond : CLO n tx k s s' a lc code value codes cl tf sf st (b_X1_readsClause_46 (nI n) t llT (nI a3) (nI s) lc) (b_X12_clause_123 (nI n) (nI tx) u (nI a3) (mI 1) (nI 0) code value codes cl (upd tf (140 * tx + k) (nI s')) sf st (nI (140 * tx + k))) := by
    have hX : b_X1_readsClause_46 (nI n) t llT (nI a3) (nI s) lc = ob4 (f_X1_readsCondition 60 (nI n) t llT (nI a3) (nI s) lc (nI 0)) fun r_11 at12 s13 c14 => if r_11 = nI 0 then some (nI 0, at12, s13, c14) else b_X1_readsClause_126 (nI n) t llT at12 s13 c14 (nI 1) := by
      simp (disch := omega) only [b_X1_readsClause_46, b_X1_readsClause_51, neg_nI, lit_nI, nI_add, pk_mul, pk_sub, nI_clamp, inB_nI, gd_true, bnd_def, nI_leI, nI_ltI, nI_eq, nI_mI, mI_nI, nle_T, nle_F, nlt_T, nlt_F, neq_T, neq_F, ↓reduceIte, Nat.add_zero, Nat.zero_add, Nat.mul_zero, Nat.reduceAdd, Nat.reduceMul, Nat.reduceSub, ob1_e, ob2_e, ob3_e, ob4_e, ob6_e]
    have hY : b_X12_clause_123 (nI n) (nI tx) u (nI a3) (mI 1) (nI 0) code value codes cl (upd tf (140 * tx + k) (nI s')) sf st (nI (140 * tx + k)) = ob6 (f_X12_condition 60 (nI n) (nI tx) u (nI a3) (mI 1) (nI 0) code value codes) fun p w q c2 v3 cc => b_X12_clause_184 (nI n) (nI tx) u p w q c2 v3 cc cl (upd tf (140 * tx + k) (nI s')) sf st (nI (140 * tx + k)) (nI 1) := by
      simp (disch := omega) only [b_X12_clause_123, b_X12_clause_128, neg_nI, lit_nI, nI_add, pk_mul, pk_sub, nI_clamp, inB_nI, gd_true, bnd_def, nI_leI, nI_ltI, nI_eq, nI_mI, mI_nI, nle_T, nle_F, nlt_T, nlt_F, neq_T, neq_F, ↓reduceIte, Nat.add_zero, Nat.zero_add, Nat.mul_zero, Nat.reduceAdd, Nat.reduceMul, Nat.reduceSub, ob1_e, ob2_e, ob3_e, ob4_e, ob6_e]
    rw [hX, hY]
    rcases cond60 hn h tb a3 s s' tx lc code value codes r2 (by omega) (by omega) htx hc with ⟨L, a4, hh, g1, g2, g3, g4, g5, g6, g7⟩ | ⟨a4, c4, x1, x2, p, q, code2, value2, codes2, g1, g2, g3, g4, g5, g6, g7⟩
    · rw [g6, g7, ob4_e, ob6_e, if_neg (by decide)]
      exact qu_o hn h tb htx hk hcl g2 (by omega) hs hs' g4 (by omega) hc
    · refine Or.inr ⟨a4, x1, x2, p, q, code2, value2, codes2, upd cl tx (cl tx + nI 1), upd tf (140 * tx + k) (nI s'), upd sf (140 * tx + k) (upd tf (140 * tx + k) (nI s') (140 * tx + k)), upd st (140 * tx + k) (codes2 tx), g1, ?_, ?_, frm_b g6 g7 (by omega) _ _ _ _⟩
      · rw [g2, ob4_e, if_pos rfl]
      · rw [g3, ob6_e, c184_w htx (by omega) (by omega)]
  by_cases q33 : c3 = nI 33
  · rw [if_pos q33, if_pos q33]; exact hcond
  rw [if_neg q33, if_neg q33]
  by_cases q40 : c3 = nI 40
  · rw [if_pos q40, if_pos q40]; exact hcond
  rw [if_neg q40, if_neg q40]
  rcases sum60 hn h tb (dp := 0) (by omega) a3 s s' tx lc code value codes r2 (by omega) (by omega) htx hc with ⟨L, a4, hh, g1, g2, g3, g4, g5, g6, g7⟩ | ⟨a4, c4, x1, x2, p, q, code2, value2, codes2, g1, g2, g3, g4, g5, g6, g7⟩
  case inr =>
    refine Or.inr ⟨a4, x1, x2, p, q, code2, value2, codes2, upd cl tx (cl tx + nI 1), upd tf (140 * tx + k) (nI s'), upd sf (140 * tx + k) (upd tf (140 * tx + k) (nI s') (140 * tx + k)), upd st (140 * tx + k) (codes2 tx), g1, ?_, ?_, frm_b g6 g7 (by omega) _ _ _ _⟩
    · simp (disch := omega) only [b_X1_readsClause_51, g2, neg_nI, lit_nI, nI_add, pk_mul, pk_sub, nI_clamp, inB_nI, gd_true, bnd_def, nI_leI, nI_ltI, nI_eq, nI_mI, mI_nI, nle_T, nle_F, nlt_T, nlt_F, neq_T, neq_F, ↓reduceIte, Nat.add_zero, Nat.zero_add, Nat.mul_zero, Nat.reduceAdd, Nat.reduceMul, Nat.reduceSub, ob1_e, ob2_e, ob3_e, ob4_e, ob6_e]
    · simp (disch := omega) only [b_X12_clause_128, b_X12_clause_166, b_X12_clause_167, g3, c184_0, neg_nI, lit_nI, nI_add, pk_mul, pk_sub, nI_clamp, inB_nI, gd_true, bnd_def, nI_leI, nI_ltI, nI_eq, nI_mI, mI_nI, nle_T, nle_F, nlt_T, nlt_F, neq_T, neq_F, ↓reduceIte, Nat.add_zero, Nat.zero_add, Nat.mul_zero, Nat.reduceAdd, Nat.reduceMul, Nat.reduceSub, ob1_e, ob2_e, ob3_e, ob4_e, ob6_e]
  obtain ⟨a5, c5, v1, v2, v3, v4, v5, v6, v7⟩ := sg_c hn h g2
  rcases cs_c v7 with ⟨z1, z2⟩ | ⟨r, z1, z0, z2⟩
  · have e2 := ap2 (f := cs) (r := lc) (o := s) (o1 := s + L.length) (A := L) (x := (14, 0)) (v := mI 13) rfl (by decide)
    have hl := XL_0l (S := L)
    refine Or.inl ⟨a5, hh, [], L, by omega, v2, by omega, g4, by omega, Or.inl rfl, ?_, ?_⟩
    · simp (disch := omega) only [b_X1_readsClause_51, g6, v3, z1, neg_nI, lit_nI, nI_add, pk_mul, pk_sub, nI_clamp, inB_nI, gd_true, bnd_def, nI_leI, nI_ltI, nI_eq, nI_mI, mI_nI, nle_T, nle_F, nlt_T, nlt_F, neq_T, neq_F, ↓reduceIte, Nat.add_zero, Nat.zero_add, Nat.mul_zero, Nat.reduceAdd, Nat.reduceMul, Nat.reduceSub, ob1_e, ob2_e, ob3_e, ob4_e, ob6_e]
      simp (disch := omega) only [b_X1_readsClause_95, neg_nI, lit_nI, nI_add, pk_mul, pk_sub, nI_clamp, inB_nI, gd_true, bnd_def, nI_leI, nI_ltI, nI_eq, nI_mI, mI_nI, nle_T, nle_F, nlt_T, nlt_F, neq_T, neq_F, ↓reduceIte, Nat.add_zero, Nat.zero_add, Nat.mul_zero, Nat.reduceAdd, Nat.reduceMul, Nat.reduceSub, ob1_e, ob2_e, ob3_e, ob4_e, ob6_e]
      simp (disch := omega) only [b_X1_readsClause_126, neg_nI, lit_nI, nI_add, pk_mul, pk_sub, nI_clamp, inB_nI, gd_true, bnd_def, nI_leI, nI_ltI, nI_eq, nI_mI, mI_nI, nle_T, nle_F, nlt_T, nlt_F, neq_T, neq_F, ↓reduceIte, Nat.add_zero, Nat.zero_add, Nat.mul_zero, Nat.reduceAdd, Nat.reduceMul, Nat.reduceSub, ob1_e, ob2_e, ob3_e, ob4_e, ob6_e]
      unfold b_X1_readsClause_161
      rw [show (-13 : Int32) = mI 13 from rfl, putX (by omega), ob3_e, isZ_1, gd_true, e2, hl, XL_0, show s + L.length + 1 = s + (L.length + 1) by omega]
    · simp (disch := omega) only [b_X12_clause_128, b_X12_clause_166, b_X12_clause_167, g7, v4, z2, c184_0, upd_s, hcl, List.nil_append, List.length_nil, neg_nI, lit_nI, nI_add, pk_mul, pk_sub, nI_clamp, inB_nI, gd_true, bnd_def, nI_leI, nI_ltI, nI_eq, nI_mI, mI_nI, nle_T, nle_F, nlt_T, nlt_F, neq_T, neq_F, ↓reduceIte, Nat.add_zero, Nat.zero_add, Nat.mul_zero, Nat.reduceAdd, Nat.reduceMul, Nat.reduceSub, ob1_e, ob2_e, ob3_e, ob4_e, ob6_e]
  · have hX : b_X1_readsClause_51 (nI n) t llT (nI a3) (nI s) lc (nI 0) = ob4 (f_X1_readsComparison (nI n) t llT (nI a5) (nI (s + L.length)) (ap cs lc s L) (nI 0)) fun r_1 at2 s3 c4 => if r_1 = nI 0 then some (nI 0, at2, s3, c4) else ob4 (f_X1_readsMoreUnits 60 (nI n) t llT at2 s3 c4 (nI 0)) fun r_6 at7 s8 c9 => if r_6 = nI 0 then some (nI 0, at7, s8, c9) else ob4 (f_X1_readsMoreTruths 60 (nI n) t llT at7 s8 c9 (nI 0)) fun r_11 at12 s13 c14 => if r_11 = nI 0 then some (nI 0, at12, s13, c14) else b_X1_readsClause_126 (nI n) t llT at12 s13 c14 (nI 1) := by
      simp (disch := omega) only [b_X1_readsClause_51, b_X1_readsClause_95, g6, v3, z1, z0, neg_nI, lit_nI, nI_add, pk_mul, pk_sub, nI_clamp, inB_nI, gd_true, bnd_def, nI_leI, nI_ltI, nI_eq, nI_mI, mI_nI, nle_T, nle_F, nlt_T, nlt_F, neq_T, neq_F, ↓reduceIte, Nat.add_zero, Nat.zero_add, Nat.mul_zero, Nat.reduceAdd, Nat.reduceMul, Nat.reduceSub, ob1_e, ob2_e, ob3_e, ob4_e, ob6_e]
    have hY : b_X12_clause_128 (nI n) (nI tx) u (nI a3) (mI 1) (nI 0) code value codes cl (upd tf (140 * tx + k) (nI s')) sf st (nI (140 * tx + k)) (nI 0) = ob6 (f_X12_compare (nI n) (nI tx) u (nI a5) (mI 1) (nI 0) (ap tc code (520 * tx + s') L) (ap tv value (520 * tx + s') L) (upd codes tx (nI (s' + L.length)))) fun p w q c2 v3 cc => ob6 (f_X12_goOnAnd 60 (nI n) (nI tx) u p w q c2 v3 cc) fun p w q c2 v3 cc => ob6 (f_X12_goOnOr 60 (nI n) (nI tx) u p w q c2 v3 cc) fun p w q c2 v3 cc => b_X12_clause_184 (nI n) (nI tx) u p w q c2 v3 cc cl (upd tf (140 * tx + k) (nI s')) sf st (nI (140 * tx + k)) (nI 1) := by
      simp (disch := omega) only [b_X12_clause_128, b_X12_clause_167, g7, v4, z2, neg_nI, lit_nI, nI_add, pk_mul, pk_sub, nI_clamp, inB_nI, gd_true, bnd_def, nI_leI, nI_ltI, nI_eq, nI_mI, mI_nI, nle_T, nle_F, nlt_T, nlt_F, neq_T, neq_F, ↓reduceIte, Nat.add_zero, Nat.zero_add, Nat.mul_zero, Nat.reduceAdd, Nat.reduceMul, Nat.reduceSub, ob1_e, ob2_e, ob3_e, ob4_e, ob6_e]
    rw [hX, hY]
    have W1 := and_W (n := n) (u := u) 60 (by omega)
    have W2 := or_W (n := n) (u := u) 60 (by omega)
    rcases cmp_o hn h tb (dp := 0) (by omega) a3 a5 s s' tx hh lc code value codes L v2 (by omega) (by omega) (by omega) (by omega) htx hc g4 (by omega) with ⟨L1, a6, h6, w1, w2, w3, w4, w5, w6, w7⟩ | ⟨a6, c6, x1, x2, p, q, code2, value2, codes2, w1, w2, w3, w4, w5, w6, w7⟩
    case inr =>
      refine Or.inr ⟨a6, x1, x2, p, q, code2, value2, codes2, upd cl tx (cl tx + nI 1), upd tf (140 * tx + k) (nI s'), upd sf (140 * tx + k) (upd tf (140 * tx + k) (nI s') (140 * tx + k)), upd st (140 * tx + k) (codes2 tx), w1, ?_, ?_, frm_b w6 w7 (by omega) _ _ _ _⟩
      · rw [w2, ob4_e, if_pos rfl]
      · rw [w3, ob6_e, W1 tx a6 p q code2 value2 codes2 (by omega), ob6_e, W2 tx a6 p q code2 value2 codes2 (by omega), ob6_e, c184_w htx (by omega) (by omega)]
    rw [w6, w7, ob4_e, ob6_e, if_neg (by decide)]
    rcases and60 hn h tb a3 a6 s s' tx h6 lc code value codes L1 w2 (by omega) (by omega) (by omega) (by omega) htx hc w4 (by omega) with ⟨L2, a7, h7, m1, m2, m3, m4, m5, m6, m7⟩ | ⟨a7, c7, x1, x2, p, q, code2, value2, codes2, m1, m2, m3, m4, m5, m6, m7⟩
    case inr =>
      refine Or.inr ⟨a7, x1, x2, p, q, code2, value2, codes2, upd cl tx (cl tx + nI 1), upd tf (140 * tx + k) (nI s'), upd sf (140 * tx + k) (upd tf (140 * tx + k) (nI s') (140 * tx + k)), upd st (140 * tx + k) (codes2 tx), m1, ?_, ?_, frm_b m6 m7 (by omega) _ _ _ _⟩
      · rw [m2, ob4_e, if_pos rfl]
      · rw [m3, ob6_e, W2 tx a7 p q code2 value2 codes2 (by omega), ob6_e, c184_w htx (by omega) (by omega)]
    rw [m6, m7, ob4_e, ob6_e, if_neg (by decide)]
    rcases or60 hn h tb a3 a7 s s' tx h7 lc code value codes L2 m2 (by omega) (by omega) (by omega) (by omega) htx hc m4 (by omega) with ⟨L3, a8, h8, o1, o2, o3, o4, o5, o6, o7⟩ | ⟨a8, c8, x1, x2, p, q, code2, value2, codes2, o1, o2, o3, o4, o5, o6, o7⟩
    case inr =>
      refine Or.inr ⟨a8, x1, x2, p, q, code2, value2, codes2, upd cl tx (cl tx + nI 1), upd tf (140 * tx + k) (nI s'), upd sf (140 * tx + k) (upd tf (140 * tx + k) (nI s') (140 * tx + k)), upd st (140 * tx + k) (codes2 tx), o1, ?_, ?_, frm_b o6 o7 (by omega) _ _ _ _⟩
      · rw [o2, ob4_e, if_pos rfl]
      · rw [o3, ob6_e, c184_w htx (by omega) (by omega)]
    rw [o6, o7, ob4_e, ob6_e, if_neg (by decide)]
    exact qu_o hn h tb htx hk hcl o2 (by omega) hs hs' o4 (by omega) hc
end CM
