/-! conditions by both -/
def OKA (n : Nat) (t u llT : Nat → Int32) (fx : FX) (fy : FY) (dp hA hh B : Nat) : Prop := ∀ (a0 a s s' tx h : Nat) (lc code value codes : Nat → Int32) (A : List Tok), a ≤ n → a0 < a → a0 + A.length ≤ a → s ≤ a0 → s' ≤ a0 → tx ≤ 4 → codes tx = nI s' → Ex A h → h ≤ hA → OUTL n tx dp s s' a0 hh B lc code value codes (fx (nI n) t llT (nI a) (nI (s + A.length)) (ap cs lc s A) (nI dp)) (fy (nI n) (nI tx) u (nI a) (mI 1) (nI dp) (ap tc code (520 * tx + s') A) (ap tv value (520 * tx + s') A) (upd codes tx (nI (s' + A.length))))
def IDW (n : Nat) (u : Nat → Int32) (fy : FY) : Prop := ∀ (tx w : Nat) (p q : Int32) (code value codes : Nat → Int32), w ≤ 240 → fy (nI n) (nI tx) u p (nI w) q code value codes = some (p, nI w, q, code, value, codes)
/-- the end with a fault, seen from before A -/
theorem BADL_base {n tx B B' s' : Nat} {code value codes : Nat → Int32} {A : List Tok} {x x' : Option XT} {y y' : Option YT} (h : BADL n tx B (ap tc code (520 * tx + s') A) (ap tv value (520 * tx + s') A) (upd codes tx (nI (s' + A.length))) x y) (hl : s' + A.length ≤ 520) (hB : B ≤ B') (hx : x' = x) (hy : y' = y) : BADL n tx B' code value codes x' y' := by
  subst hx hy
  obtain ⟨a2, c2, x1, x2, p, q, code2, value2, codes2, g1, g2, g3, g4, g5, g6, g7⟩ := h
  refine ⟨a2, c2, x1, x2, p, q, code2, value2, codes2, g1, g2, g3, g4, by omega, fun i hi => ?_, fun i hi => ?_⟩
  · obtain ⟨w1, w2⟩ := g6 i hi
    have w3 : (i < 520 * tx + s' ∨ 520 * tx + s' + A.length ≤ i) := by omega
    rw [w1, w2, ap_out _ _ _ _ w3, ap_out _ _ _ _ w3]
    exact ⟨rfl, rfl⟩
  · rw [g7 i hi, upd_n hi]
section CO
variable {n : Nat} {t u llT : Nat → Int32} {FC FO FM FU : FX} {GC GA GO GU : FY}
theorem cmp_o (hn : n ≤ 240) (h : RT n t u) (tb : LT6 llT) {dp : Nat} (hd : dp ≤ 6) : OKA n t u llT f_X1_readsComparison f_X12_compare dp (2 * (6 - dp) + 3) (2 * (6 - dp) + 4) (240 + 10 * (6 - dp) + 3) := by
  intro a0 a s s' tx hA lc code value codes A ha h0 h1 hs hs' htx hc eA hhA
  obtain ⟨a1, c, s1, s2, s3, s4, s5, s6, s7⟩ := sg_c hn h ha
  have hno : ∀ (hx : f_X1_comparison c = some (mI 1)) (hy : f_X12_isSign c = some (nI 0)), OUTL n tx dp s s' a0 (2 * (6 - dp) + 4) (240 + 10 * (6 - dp) + 3) lc code value codes (f_X1_readsComparison (nI n) t llT (nI a) (nI (s + A.length)) (ap cs lc s A) (nI dp)) (f_X12_compare (nI n) (nI tx) u (nI a) (mI 1) (nI dp) (ap tc code (520 * tx + s') A) (ap tv value (520 * tx + s') A) (upd codes tx (nI (s' + A.length)))) := by
    intro hx hy
    refine Or.inr ⟨a1, s' + A.length, nI (s + A.length), ap cs lc s A, nI a1, nI dp, ap tc code (520 * tx + s') A, ap tv value (520 * tx + s') A, upd codes tx (nI (s' + A.length)), s2, ?_, ?_, upd_y rfl, by omega, fun i hi => ⟨ap_out _ _ _ _ (by omega), ap_out _ _ _ _ (by omega)⟩, fun i hi => upd_n hi⟩
    · simp (disch := omega) only [f_X1_readsComparison, b_X1_readsComparison_0, s3, hx, neg_nI, lit_nI, nI_add, pk_mul, pk_sub, nI_clamp, inB_nI, gd_true, bnd_def, nI_leI, nI_ltI, nI_eq, nI_mI, mI_nI, nle_T, nle_F, nlt_T, nlt_F, neq_T, neq_F, ↓reduceIte, Nat.add_zero, Nat.zero_add, Nat.mul_zero, Nat.reduceAdd, Nat.reduceMul, Nat.reduceSub, ob1_e, ob2_e, ob3_e, ob4_e, ob6_e]
    · simp (disch := omega) only [f_X12_compare, b_X12_compare_0, b_X12_compare_16, s4, hy, bad_n, neg_nI, lit_nI, nI_add, pk_mul, pk_sub, nI_clamp, inB_nI, gd_true, bnd_def, nI_leI, nI_ltI, nI_eq, nI_mI, mI_nI, nle_T, nle_F, nlt_T, nlt_F, neq_T, neq_F, ↓reduceIte, Nat.add_zero, Nat.zero_add, Nat.mul_zero, Nat.reduceAdd, Nat.reduceMul, Nat.reduceSub, ob1_e, ob2_e, ob3_e, ob4_e, ob6_e]
  rcases s7 with ⟨ec, en⟩ | ⟨b, b0, b1, b2, ec, hb, et, eu⟩
  · subst ec
    apply hno
    · simp (disch := omega) only [f_X1_comparison, b_X1_comparison_0, neg_nI, lit_nI, nI_add, pk_mul, pk_sub, nI_clamp, inB_nI, gd_true, bnd_def, nI_leI, nI_ltI, nI_eq, nI_mI, mI_nI, nle_T, nle_F, nlt_T, nlt_F, neq_T, neq_F, ↓reduceIte, Nat.add_zero, Nat.zero_add, Nat.mul_zero, Nat.reduceAdd, Nat.reduceMul, Nat.reduceSub, ob1_e, ob2_e, ob3_e, ob4_e, ob6_e]
    · simp (disch := omega) only [f_X12_isSign, b_X12_isSign_0, b_X12_isSign_18, neg_nI, lit_nI, nI_add, pk_mul, pk_sub, nI_clamp, inB_nI, gd_true, bnd_def, nI_leI, nI_ltI, nI_eq, nI_mI, mI_nI, nle_T, nle_F, nlt_T, nlt_F, neq_T, neq_F, ↓reduceIte, Nat.add_zero, Nat.zero_add, Nat.mul_zero, Nat.reduceAdd, Nat.reduceMul, Nat.reduceSub, ob1_e, ob2_e, ob3_e, ob4_e, ob6_e]
  subst ec
  have hgo : ∀ k, 6 ≤ k ∧ k ≤ 8 → ∀ (hx : f_X1_comparison (nI b) = some (cs (k, 0))) (hx2 : cs (k, 0) ≠ mI 1) (Y : Option YT) (hY : Y = ob6 (f_X12_sum 60 (nI n) (nI tx) u (nI (a1 + 1)) (mI 1) (nI dp) (ap tc code (520 * tx + s') A) (ap tv value (520 * tx + s') A) (upd codes tx (nI (s' + A.length)))) fun p w q c2 v3 cc => b_X12_compare_68 (nI n) (nI tx) u p w q c2 v3 cc (nI k)), OUTL n tx dp s s' a0 (2 * (6 - dp) + 4) (240 + 10 * (6 - dp) + 3) lc code value codes (f_X1_readsComparison (nI n) t llT (nI a) (nI (s + A.length)) (ap cs lc s A) (nI dp)) Y := by
    intro k hk hx hx2 Y hY
    rcases sum60 hn h tb hd (a1 + 1) (s + A.length) (s' + A.length) tx (ap cs lc s A) (ap tc code (520 * tx + s') A) (ap tv value (520 * tx + s') A) (upd codes tx (nI (s' + A.length))) (by omega) (by omega) (by omega) htx (upd_y rfl) with ⟨L, a2, hh, g1, g2, g3, g4, g5, g6, g7⟩ | ⟨a2, c2, x1, x2, p, q, code2, value2, codes2, g1, g2, g3, g4, g5, g6, g7⟩
    · have e2 := ap3 (f := cs) (r := lc) (o := s) (o1 := s + A.length) (o2 := s + A.length + L.length) (A := A) (B := L) (x := (k, 0)) rfl rfl rfl
      have e3 := ap3 (f := tc) (r := code) (o := 520 * tx + s') (o1 := 520 * tx + (s' + A.length)) (o2 := 520 * tx + (s' + A.length + L.length)) (A := A) (B := L) (x := (k, 0)) (v := nI k) (by omega) (by omega) rfl
      have e4 := ap3 (f := tv) (r := value) (o := 520 * tx + s') (o1 := 520 * tx + (s' + A.length)) (o2 := 520 * tx + (s' + A.length + L.length)) (A := A) (B := L) (x := (k, 0)) (v := nI 0) (by omega) (by omega) rfl
      have hl := len3 (A := A) (B := L) (x := (k, 0))
      refine Or.inl ⟨A ++ (L ++ [(k, 0)]), a2, max hA (hh + 1), by omega, g2, by omega, Ex.bin (by omega) eA g4, by omega, ?_, ?_⟩
      · simp (disch := omega) only [f_X1_readsComparison, b_X1_readsComparison_0, s3, hx, hx2, g6, putX, e2, hl, neg_nI, lit_nI, nI_add, pk_mul, pk_sub, nI_clamp, inB_nI, gd_true, bnd_def, nI_leI, nI_ltI, nI_eq, nI_mI, mI_nI, nle_T, nle_F, nlt_T, nlt_F, neq_T, neq_F, ↓reduceIte, Nat.add_zero, Nat.zero_add, Nat.mul_zero, Nat.reduceAdd, Nat.reduceMul, Nat.reduceSub, ob1_e, ob2_e, ob3_e, ob4_e, ob6_e]
        rw [show s + A.length + L.length + 1 = s + (A.length + L.length + 1) by omega]
      · rw [hY, g7, ob6_e, hl]
        unfold b_X12_compare_68
        rw [lit_nI, putY htx (show s' + A.length + L.length < 520 by omega) (upd_y rfl), ob3_e, e3, e4, upd_upd, upd_upd, show s' + A.length + L.length + 1 = s' + (A.length + L.length + 1) by omega]
    · refine Or.inr ⟨a2, c2 + 1, x1, x2, p, q, upd code2 (520 * tx + c2) (nI k), upd value2 (520 * tx + c2) (nI 0), upd codes2 tx (nI (c2 + 1)), g1, ?_, ?_, upd_y rfl, by omega, fun i hi => ?_, fun i hi => ?_⟩
      · simp (disch := omega) only [f_X1_readsComparison, b_X1_readsComparison_0, s3, hx, hx2, g2, neg_nI, lit_nI, nI_add, pk_mul, pk_sub, nI_clamp, inB_nI, gd_true, bnd_def, nI_leI, nI_ltI, nI_eq, nI_mI, mI_nI, nle_T, nle_F, nlt_T, nlt_F, neq_T, neq_F, ↓reduceIte, Nat.add_zero, Nat.zero_add, Nat.mul_zero, Nat.reduceAdd, Nat.reduceMul, Nat.reduceSub, ob1_e, ob2_e, ob3_e, ob4_e, ob6_e]
      · rw [hY, g3, ob6_e]
        unfold b_X12_compare_68
        rw [lit_nI, putY htx (show c2 < 520 by omega) g4, ob3_e]
      · obtain ⟨w1, w2⟩ := g6 i hi
        have w3 : (i < 520 * tx + s' ∨ 520 * tx + s' + A.length ≤ i) := by omega
        rw [upd_n (by omega), upd_n (by omega), w1, w2, ap_out _ _ _ _ w3, ap_out _ _ _ _ w3]
        exact ⟨rfl, rfl⟩
      · rw [upd_n hi, g7 i hi, upd_n hi]
  by_cases q6 : b = 61
  · subst q6
    refine hgo 6 (by omega) ?_ (by decide) _ ?_
    · simp (disch := omega) only [f_X1_comparison, b_X1_comparison_0, neg_nI, lit_nI, nI_add, pk_mul, pk_sub, nI_clamp, inB_nI, gd_true, bnd_def, nI_leI, nI_ltI, nI_eq, nI_mI, mI_nI, nle_T, nle_F, nlt_T, nlt_F, neq_T, neq_F, ↓reduceIte, Nat.add_zero, Nat.zero_add, Nat.mul_zero, Nat.reduceAdd, Nat.reduceMul, Nat.reduceSub, ob1_e, ob2_e, ob3_e, ob4_e, ob6_e]
      rfl
    · have hy : f_X12_isSign (nI 61) = some (nI 1) := by simp (disch := omega) only [f_X12_isSign, b_X12_isSign_0, b_X12_isSign_18, neg_nI, lit_nI, nI_add, pk_mul, pk_sub, nI_clamp, inB_nI, gd_true, bnd_def, nI_leI, nI_ltI, nI_eq, nI_mI, mI_nI, nle_T, nle_F, nlt_T, nlt_F, neq_T, neq_F, ↓reduceIte, Nat.add_zero, Nat.zero_add, Nat.mul_zero, Nat.reduceAdd, Nat.reduceMul, Nat.reduceSub, ob1_e, ob2_e, ob3_e, ob4_e, ob6_e]
      simp (disch := omega) only [f_X12_compare, b_X12_compare_0, b_X12_compare_16, s4, hy, neg_nI, lit_nI, nI_add, pk_mul, pk_sub, nI_clamp, inB_nI, gd_true, bnd_def, nI_leI, nI_ltI, nI_eq, nI_mI, mI_nI, nle_T, nle_F, nlt_T, nlt_F, neq_T, neq_F, ↓reduceIte, Nat.add_zero, Nat.zero_add, Nat.mul_zero, Nat.reduceAdd, Nat.reduceMul, Nat.reduceSub, ob1_e, ob2_e, ob3_e, ob4_e, ob6_e]
  by_cases q7 : b = 60
  · subst q7
    refine hgo 7 (by omega) ?_ (by decide) _ ?_
    · simp (disch := omega) only [f_X1_comparison, b_X1_comparison_0, neg_nI, lit_nI, nI_add, pk_mul, pk_sub, nI_clamp, inB_nI, gd_true, bnd_def, nI_leI, nI_ltI, nI_eq, nI_mI, mI_nI, nle_T, nle_F, nlt_T, nlt_F, neq_T, neq_F, ↓reduceIte, Nat.add_zero, Nat.zero_add, Nat.mul_zero, Nat.reduceAdd, Nat.reduceMul, Nat.reduceSub, ob1_e, ob2_e, ob3_e, ob4_e, ob6_e]
      rfl
    · have hy : f_X12_isSign (nI 60) = some (nI 1) := by simp (disch := omega) only [f_X12_isSign, b_X12_isSign_0, b_X12_isSign_18, neg_nI, lit_nI, nI_add, pk_mul, pk_sub, nI_clamp, inB_nI, gd_true, bnd_def, nI_leI, nI_ltI, nI_eq, nI_mI, mI_nI, nle_T, nle_F, nlt_T, nlt_F, neq_T, neq_F, ↓reduceIte, Nat.add_zero, Nat.zero_add, Nat.mul_zero, Nat.reduceAdd, Nat.reduceMul, Nat.reduceSub, ob1_e, ob2_e, ob3_e, ob4_e, ob6_e]
      simp (disch := omega) only [f_X12_compare, b_X12_compare_0, b_X12_compare_16, s4, hy, neg_nI, lit_nI, nI_add, pk_mul, pk_sub, nI_clamp, inB_nI, gd_true, bnd_def, nI_leI, nI_ltI, nI_eq, nI_mI, mI_nI, nle_T, nle_F, nlt_T, nlt_F, neq_T, neq_F, ↓reduceIte, Nat.add_zero, Nat.zero_add, Nat.mul_zero, Nat.reduceAdd, Nat.reduceMul, Nat.reduceSub, ob1_e, ob2_e, ob3_e, ob4_e, ob6_e]
  by_cases q8 : b = 62
  · subst q8
    refine hgo 8 (by omega) ?_ (by decide) _ ?_
    · simp (disch := omega) only [f_X1_comparison, b_X1_comparison_0, neg_nI, lit_nI, nI_add, pk_mul, pk_sub, nI_clamp, inB_nI, gd_true, bnd_def, nI_leI, nI_ltI, nI_eq, nI_mI, mI_nI, nle_T, nle_F, nlt_T, nlt_F, neq_T, neq_F, ↓reduceIte, Nat.add_zero, Nat.zero_add, Nat.mul_zero, Nat.reduceAdd, Nat.reduceMul, Nat.reduceSub, ob1_e, ob2_e, ob3_e, ob4_e, ob6_e]
      rfl
    · have hy : f_X12_isSign (nI 62) = some (nI 1) := by simp (disch := omega) only [f_X12_isSign, b_X12_isSign_0, b_X12_isSign_18, neg_nI, lit_nI, nI_add, pk_mul, pk_sub, nI_clamp, inB_nI, gd_true, bnd_def, nI_leI, nI_ltI, nI_eq, nI_mI, mI_nI, nle_T, nle_F, nlt_T, nlt_F, neq_T, neq_F, ↓reduceIte, Nat.add_zero, Nat.zero_add, Nat.mul_zero, Nat.reduceAdd, Nat.reduceMul, Nat.reduceSub, ob1_e, ob2_e, ob3_e, ob4_e, ob6_e]
      simp (disch := omega) only [f_X12_compare, b_X12_compare_0, b_X12_compare_16, s4, hy, neg_nI, lit_nI, nI_add, pk_mul, pk_sub, nI_clamp, inB_nI, gd_true, bnd_def, nI_leI, nI_ltI, nI_eq, nI_mI, mI_nI, nle_T, nle_F, nlt_T, nlt_F, neq_T, neq_F, ↓reduceIte, Nat.add_zero, Nat.zero_add, Nat.mul_zero, Nat.reduceAdd, Nat.reduceMul, Nat.reduceSub, ob1_e, ob2_e, ob3_e, ob4_e, ob6_e]

  apply hno
  · simp (disch := omega) only [f_X1_comparison, b_X1_comparison_0, neg_nI, lit_nI, nI_add, pk_mul, pk_sub, nI_clamp, inB_nI, gd_true, bnd_def, nI_leI, nI_ltI, nI_eq, nI_mI, mI_nI, nle_T, nle_F, nlt_T, nlt_F, neq_T, neq_F, ↓reduceIte, Nat.add_zero, Nat.zero_add, Nat.mul_zero, Nat.reduceAdd, Nat.reduceMul, Nat.reduceSub, ob1_e, ob2_e, ob3_e, ob4_e, ob6_e]
  · simp (disch := omega) only [f_X12_isSign, b_X12_isSign_0, b_X12_isSign_18, neg_nI, lit_nI, nI_add, pk_mul, pk_sub, nI_clamp, inB_nI, gd_true, bnd_def, nI_leI, nI_ltI, nI_eq, nI_mI, mI_nI, nle_T, nle_F, nlt_T, nlt_F, neq_T, neq_F, ↓reduceIte, Nat.add_zero, Nat.zero_add, Nat.mul_zero, Nat.reduceAdd, Nat.reduceMul, Nat.reduceSub, ob1_e, ob2_e, ob3_e, ob4_e, ob6_e]
theorem unit_o (hn : n ≤ 240) (h : RT n t u) (tb : LT6 llT) {dp : Nat} (hd : dp ≤ 6) (hU : dp < 6 → OKF n t u llT FU GU (dp + 1) (2 * (6 - dp) + 4) (240 + 10 * (6 - dp) + 2)) (hC : dp < 6 → OKF n t u llT FC GC (dp + 1) (2 * (6 - dp) + 4) (240 + 10 * (6 - dp) + 2)) : OKF n t u llT (g_X1_readsUnit FC FO FM FU) (g_X12_unit GC GA GO GU) dp (2 * (6 - dp) + 4) (240 + 10 * (6 - dp) + 3) := by
  intro a s s' tx lc code value codes ha hs hs' htx hc
  obtain ⟨a1, c, s1, s2, s3, s4, s5, s6, s7⟩ := sg_c hn h ha
  have hcb : c = mI 1 ∨ ∃ b, b ≤ 255 ∧ c = nI b ∧ a1 < n := by
    rcases s7 with ⟨ec, _⟩ | ⟨b, b0, b1, b2, ec, hb, _⟩
    · exact Or.inl ec
    · exact Or.inr ⟨b, b1, ec, hb⟩
  by_cases q33 : c = nI 33
  · subst q33
    have hlt : a1 < n := by
      rcases hcb with e | ⟨_, _, _, e⟩
      · exact absurd e (nI_nm (by omega))
      · exact e
    rcases Nat.lt_or_ge dp 6 with q6 | q6
    · rcases hU q6 (a1 + 1) s s' tx lc code value codes (by omega) (by omega) (by omega) htx hc with ⟨L, a2, hh, g1, g2, g3, g4, g5, g6, g7⟩ | ⟨a2, c2, x1, x2, p, q, code2, value2, codes2, g1, g2, g3, g4, g5, g6, g7⟩
      · have e2 := ap2 (f := cs) (r := lc) (o := s) (o1 := s + L.length) (A := L) (x := (9, 0)) (v := mI 11) rfl (by decide)
        have e3 := ap2 (f := tc) (r := code) (o := 520 * tx + s') (o1 := 520 * tx + (s' + L.length)) (A := L) (x := (9, 0)) (v := nI 9) (by omega) rfl
        have e4 := ap2 (f := tv) (r := value) (o := 520 * tx + s') (o1 := 520 * tx + (s' + L.length)) (A := L) (x := (9, 0)) (v := nI 0) (by omega) rfl
        have hl := len2 (A := L) (x := (9, 0))
        refine Or.inl ⟨L ++ [(9, 0)], a2, hh, by omega, g2, by omega, Ex.nt g4, by omega, ?_, ?_⟩
        · simp (disch := omega) only [g_X1_readsUnit, b_X1_readsUnit_0, b_X1_readsUnit_42, s3, g6, putX, e2, hl, neg_nI, lit_nI, nI_add, pk_mul, pk_sub, nI_clamp, inB_nI, gd_true, bnd_def, nI_leI, nI_ltI, nI_eq, nI_mI, mI_nI, nle_T, nle_F, nlt_T, nlt_F, neq_T, neq_F, ↓reduceIte, Nat.add_zero, Nat.zero_add, Nat.mul_zero, Nat.reduceAdd, Nat.reduceMul, Nat.reduceSub, ob1_e, ob2_e, ob3_e, ob4_e, ob6_e]
          rw [show s + L.length + 1 = s + (L.length + 1) by omega]
        · have hp := putY (code := ap tc code (520 * tx + s') L) (value := ap tv value (520 * tx + s') L) (codes := upd codes tx (nI (s' + L.length))) (k := nI 9) (v := nI 0) htx (show s' + L.length < 520 by omega) (upd_y rfl)
          rw [e3, e4, upd_upd] at hp
          simp (disch := omega) only [g_X12_unit, b_X12_unit_0, s4, f_X12_opens, b_X12_opens_0, b_X12_opens_13, g7, hp, hl, Nat.add_sub_cancel, ob3_e, neg_nI, lit_nI, nI_add, pk_mul, pk_sub, nI_clamp, inB_nI, gd_true, bnd_def, nI_leI, nI_ltI, nI_eq, nI_mI, mI_nI, nle_T, nle_F, nlt_T, nlt_F, neq_T, neq_F, ↓reduceIte, Nat.add_zero, Nat.zero_add, Nat.mul_zero, Nat.reduceAdd, Nat.reduceMul, Nat.reduceSub, ob1_e, ob2_e, ob3_e, ob4_e, ob6_e]
          rw [show s' + L.length + 1 = s' + (L.length + 1) by omega]
      · have hp := putY (code := code2) (value := value2) (codes := codes2) (k := nI 9) (v := nI 0) htx (show c2 < 520 by omega) g4
        refine Or.inr ⟨a2, c2 + 1, x1, x2, p, q - nI 1, upd code2 (520 * tx + c2) (nI 9), upd value2 (520 * tx + c2) (nI 0), upd codes2 tx (nI (c2 + 1)), g1, ?_, ?_, upd_y rfl, by omega, fun i hi => ?_, fun i hi => ?_⟩
        · simp (disch := omega) only [g_X1_readsUnit, b_X1_readsUnit_0, b_X1_readsUnit_42, s3, g2, neg_nI, lit_nI, nI_add, pk_mul, pk_sub, nI_clamp, inB_nI, gd_true, bnd_def, nI_leI, nI_ltI, nI_eq, nI_mI, mI_nI, nle_T, nle_F, nlt_T, nlt_F, neq_T, neq_F, ↓reduceIte, Nat.add_zero, Nat.zero_add, Nat.mul_zero, Nat.reduceAdd, Nat.reduceMul, Nat.reduceSub, ob1_e, ob2_e, ob3_e, ob4_e, ob6_e]
        · simp (disch := omega) only [g_X12_unit, b_X12_unit_0, s4, f_X12_opens, b_X12_opens_0, b_X12_opens_13, g3, hp, ob3_e, neg_nI, lit_nI, nI_add, pk_mul, pk_sub, nI_clamp, inB_nI, gd_true, bnd_def, nI_leI, nI_ltI, nI_eq, nI_mI, mI_nI, nle_T, nle_F, nlt_T, nlt_F, neq_T, neq_F, ↓reduceIte, Nat.add_zero, Nat.zero_add, Nat.mul_zero, Nat.reduceAdd, Nat.reduceMul, Nat.reduceSub, ob1_e, ob2_e, ob3_e, ob4_e, ob6_e]
        · obtain ⟨w1, w2⟩ := g6 i hi
          rw [upd_n (by omega), upd_n (by omega), w1, w2]
          exact ⟨rfl, rfl⟩
        · rw [upd_n hi, g7 i hi]
    · obtain rfl : dp = 6 := by omega
      refine Or.inr ⟨a1, s', nI s, lc, nI (a1 + 1), nI 7, code, value, codes, s2, ?_, ?_, hc, by omega, fun _ _ => ⟨rfl, rfl⟩, fun _ _ => rfl⟩
      · simp (disch := omega) only [g_X1_readsUnit, b_X1_readsUnit_0, b_X1_readsUnit_42, s3, neg_nI, lit_nI, nI_add, pk_mul, pk_sub, nI_clamp, inB_nI, gd_true, bnd_def, nI_leI, nI_ltI, nI_eq, nI_mI, mI_nI, nle_T, nle_F, nlt_T, nlt_F, neq_T, neq_F, ↓reduceIte, Nat.add_zero, Nat.zero_add, Nat.mul_zero, Nat.reduceAdd, Nat.reduceMul, Nat.reduceSub, ob1_e, ob2_e, ob3_e, ob4_e, ob6_e]
      · simp (disch := omega) only [g_X12_unit, b_X12_unit_0, s4, f_X12_opens, b_X12_opens_0, b_X12_opens_13, bad_n, ob3_e, neg_nI, lit_nI, nI_add, pk_mul, pk_sub, nI_clamp, inB_nI, gd_true, bnd_def, nI_leI, nI_ltI, nI_eq, nI_mI, mI_nI, nle_T, nle_F, nlt_T, nlt_F, neq_T, neq_F, ↓reduceIte, Nat.add_zero, Nat.zero_add, Nat.mul_zero, Nat.reduceAdd, Nat.reduceMul, Nat.reduceSub, ob1_e, ob2_e, ob3_e, ob4_e, ob6_e]
  by_cases q40 : c = nI 40
  · subst q40
    have hlt : a1 < n := by
      rcases hcb with e | ⟨_, _, _, e⟩
      · exact absurd e (nI_nm (by omega))
      · exact e
    rcases Nat.lt_or_ge dp 6 with q6 | q6
    · rcases hC q6 (a1 + 1) s s' tx lc code value codes (by omega) (by omega) (by omega) htx hc with ⟨L, a2, hh, g1, g2, g3, g4, g5, g6, g7⟩ | ⟨a2, c2, x1, x2, p, q, code2, value2, codes2, g1, g2, g3, g4, g5, g6, g7⟩
      · obtain ⟨a3, c3, r1, r2, r3, r4, r5, r6, r7⟩ := sg_c hn h g2
        by_cases e41 : c3 = nI 41
        · subst e41
          have ha3 : a3 < n := by
            rcases r7 with ⟨e, _⟩ | ⟨_, _, _, _, _, e, _⟩
            · exact absurd e (nI_nm (by omega))
            · exact e
          refine Or.inl ⟨L, a3 + 1, hh, by omega, by omega, by omega, g4, g5, ?_, ?_⟩
          · simp (disch := omega) only [g_X1_readsUnit, b_X1_readsUnit_0, b_X1_readsUnit_42, s3, g6, f_X10_take, b_X10_take_0, r3, neg_nI, lit_nI, nI_add, pk_mul, pk_sub, nI_clamp, inB_nI, gd_true, bnd_def, nI_leI, nI_ltI, nI_eq, nI_mI, mI_nI, nle_T, nle_F, nlt_T, nlt_F, neq_T, neq_F, ↓reduceIte, Nat.add_zero, Nat.zero_add, Nat.mul_zero, Nat.reduceAdd, Nat.reduceMul, Nat.reduceSub, ob1_e, ob2_e, ob3_e, ob4_e, ob6_e]
          · simp (disch := omega) only [g_X12_unit, b_X12_unit_0, s4, f_X12_opens, b_X12_opens_0, b_X12_opens_13, g7, f_X12_closes, b_X12_closes_0, b_X12_closes_20, r4, Nat.add_sub_cancel, ob3_e, neg_nI, lit_nI, nI_add, pk_mul, pk_sub, nI_clamp, inB_nI, gd_true, bnd_def, nI_leI, nI_ltI, nI_eq, nI_mI, mI_nI, nle_T, nle_F, nlt_T, nlt_F, neq_T, neq_F, ↓reduceIte, Nat.add_zero, Nat.zero_add, Nat.mul_zero, Nat.reduceAdd, Nat.reduceMul, Nat.reduceSub, ob1_e, ob2_e, ob3_e, ob4_e, ob6_e]
        · refine Or.inr ⟨a3, s' + L.length, nI (s + L.length), ap cs lc s L, nI (a3 + 1), nI dp, ap tc code (520 * tx + s') L, ap tv value (520 * tx + s') L, upd codes tx (nI (s' + L.length)), r2, ?_, ?_, upd_y rfl, by omega, fun i hi => ⟨ap_out _ _ _ _ (by omega), ap_out _ _ _ _ (by omega)⟩, fun i hi => upd_n hi⟩
          · simp (disch := omega) only [g_X1_readsUnit, b_X1_readsUnit_0, b_X1_readsUnit_42, s3, g6, f_X10_take, b_X10_take_0, r3, e41, neg_nI, lit_nI, nI_add, pk_mul, pk_sub, nI_clamp, inB_nI, gd_true, bnd_def, nI_leI, nI_ltI, nI_eq, nI_mI, mI_nI, nle_T, nle_F, nlt_T, nlt_F, neq_T, neq_F, ↓reduceIte, Nat.add_zero, Nat.zero_add, Nat.mul_zero, Nat.reduceAdd, Nat.reduceMul, Nat.reduceSub, ob1_e, ob2_e, ob3_e, ob4_e, ob6_e]
          · simp (disch := omega) only [g_X12_unit, b_X12_unit_0, s4, f_X12_opens, b_X12_opens_0, b_X12_opens_13, g7, f_X12_closes, b_X12_closes_0, b_X12_closes_20, r4, e41, bad_n, Nat.add_sub_cancel, ob3_e, neg_nI, lit_nI, nI_add, pk_mul, pk_sub, nI_clamp, inB_nI, gd_true, bnd_def, nI_leI, nI_ltI, nI_eq, nI_mI, mI_nI, nle_T, nle_F, nlt_T, nlt_F, neq_T, neq_F, ↓reduceIte, Nat.add_zero, Nat.zero_add, Nat.mul_zero, Nat.reduceAdd, Nat.reduceMul, Nat.reduceSub, ob1_e, ob2_e, ob3_e, ob4_e, ob6_e]
      · refine Or.inr ⟨a2, c2, x1, x2, p + nI 1, q - nI 1, code2, value2, codes2, g1, ?_, ?_, g4, by omega, g6, g7⟩
        · simp (disch := omega) only [g_X1_readsUnit, b_X1_readsUnit_0, b_X1_readsUnit_42, s3, g2, neg_nI, lit_nI, nI_add, pk_mul, pk_sub, nI_clamp, inB_nI, gd_true, bnd_def, nI_leI, nI_ltI, nI_eq, nI_mI, mI_nI, nle_T, nle_F, nlt_T, nlt_F, neq_T, neq_F, ↓reduceIte, Nat.add_zero, Nat.zero_add, Nat.mul_zero, Nat.reduceAdd, Nat.reduceMul, Nat.reduceSub, ob1_e, ob2_e, ob3_e, ob4_e, ob6_e]
        · simp (disch := omega) only [g_X12_unit, b_X12_unit_0, s4, f_X12_opens, b_X12_opens_0, b_X12_opens_13, g3, f_X12_closes, b_X12_closes_0, b_X12_closes_20, ob3_e, neg_nI, lit_nI, nI_add, pk_mul, pk_sub, nI_clamp, inB_nI, gd_true, bnd_def, nI_leI, nI_ltI, nI_eq, nI_mI, mI_nI, nle_T, nle_F, nlt_T, nlt_F, neq_T, neq_F, ↓reduceIte, Nat.add_zero, Nat.zero_add, Nat.mul_zero, Nat.reduceAdd, Nat.reduceMul, Nat.reduceSub, ob1_e, ob2_e, ob3_e, ob4_e, ob6_e]
    · obtain rfl : dp = 6 := by omega
      refine Or.inr ⟨a1, s', nI s, lc, nI (a1 + 1), nI 7, code, value, codes, s2, ?_, ?_, hc, by omega, fun _ _ => ⟨rfl, rfl⟩, fun _ _ => rfl⟩
      · simp (disch := omega) only [g_X1_readsUnit, b_X1_readsUnit_0, b_X1_readsUnit_42, s3, neg_nI, lit_nI, nI_add, pk_mul, pk_sub, nI_clamp, inB_nI, gd_true, bnd_def, nI_leI, nI_ltI, nI_eq, nI_mI, mI_nI, nle_T, nle_F, nlt_T, nlt_F, neq_T, neq_F, ↓reduceIte, Nat.add_zero, Nat.zero_add, Nat.mul_zero, Nat.reduceAdd, Nat.reduceMul, Nat.reduceSub, ob1_e, ob2_e, ob3_e, ob4_e, ob6_e]
      · simp (disch := omega) only [g_X12_unit, b_X12_unit_0, s4, f_X12_opens, b_X12_opens_0, b_X12_opens_13, bad_n, ob3_e, neg_nI, lit_nI, nI_add, pk_mul, pk_sub, nI_clamp, inB_nI, gd_true, bnd_def, nI_leI, nI_ltI, nI_eq, nI_mI, mI_nI, nle_T, nle_F, nlt_T, nlt_F, neq_T, neq_F, ↓reduceIte, Nat.add_zero, Nat.zero_add, Nat.mul_zero, Nat.reduceAdd, Nat.reduceMul, Nat.reduceSub, ob1_e, ob2_e, ob3_e, ob4_e, ob6_e]
  rcases sum60 hn h tb hd a1 s s' tx lc code value codes s2 (by omega) (by omega) htx hc with ⟨L, a2, hh, g1, g2, g3, g4, g5, g6, g7⟩ | ⟨a2, c2, x1, x2, p, q, code2, value2, codes2, g1, g2, g3, g4, g5, g6, g7⟩
  · rcases cmp_o hn h tb hd a a2 s s' tx hh lc code value codes L g2 (by omega) (by omega) hs hs' htx hc g4 g5 with ⟨L', a3, h3, w1, w2, w3, w4, w5, w6, w7⟩ | ⟨a3, c3, y1, y2, p, q, code3, value3, codes3, w1, w2, w3, w4, w5, w6, w7⟩
    · refine Or.inl ⟨L', a3, h3, w1, w2, w3, w4, w5, ?_, ?_⟩
      · simp (disch := omega) only [g_X1_readsUnit, b_X1_readsUnit_0, s3, q33, q40, g6, w6, neg_nI, lit_nI, nI_add, pk_mul, pk_sub, nI_clamp, inB_nI, gd_true, bnd_def, nI_leI, nI_ltI, nI_eq, nI_mI, mI_nI, nle_T, nle_F, nlt_T, nlt_F, neq_T, neq_F, ↓reduceIte, Nat.add_zero, Nat.zero_add, Nat.mul_zero, Nat.reduceAdd, Nat.reduceMul, Nat.reduceSub, ob1_e, ob2_e, ob3_e, ob4_e, ob6_e]
      · simp (disch := omega) only [g_X12_unit, b_X12_unit_0, s4, q33, q40, g7, w7, neg_nI, lit_nI, nI_add, pk_mul, pk_sub, nI_clamp, inB_nI, gd_true, bnd_def, nI_leI, nI_ltI, nI_eq, nI_mI, mI_nI, nle_T, nle_F, nlt_T, nlt_F, neq_T, neq_F, ↓reduceIte, Nat.add_zero, Nat.zero_add, Nat.mul_zero, Nat.reduceAdd, Nat.reduceMul, Nat.reduceSub, ob1_e, ob2_e, ob3_e, ob4_e, ob6_e]
    · refine Or.inr ⟨a3, c3, y1, y2, p, q, code3, value3, codes3, w1, ?_, ?_, w4, w5, w6, w7⟩
      · simp (disch := omega) only [g_X1_readsUnit, b_X1_readsUnit_0, s3, q33, q40, g6, w2, neg_nI, lit_nI, nI_add, pk_mul, pk_sub, nI_clamp, inB_nI, gd_true, bnd_def, nI_leI, nI_ltI, nI_eq, nI_mI, mI_nI, nle_T, nle_F, nlt_T, nlt_F, neq_T, neq_F, ↓reduceIte, Nat.add_zero, Nat.zero_add, Nat.mul_zero, Nat.reduceAdd, Nat.reduceMul, Nat.reduceSub, ob1_e, ob2_e, ob3_e, ob4_e, ob6_e]
      · simp (disch := omega) only [g_X12_unit, b_X12_unit_0, s4, q33, q40, g7, w3, neg_nI, lit_nI, nI_add, pk_mul, pk_sub, nI_clamp, inB_nI, gd_true, bnd_def, nI_leI, nI_ltI, nI_eq, nI_mI, mI_nI, nle_T, nle_F, nlt_T, nlt_F, neq_T, neq_F, ↓reduceIte, Nat.add_zero, Nat.zero_add, Nat.mul_zero, Nat.reduceAdd, Nat.reduceMul, Nat.reduceSub, ob1_e, ob2_e, ob3_e, ob4_e, ob6_e]
  · refine Or.inr ⟨a2, c2, x1, x2, p, q, code2, value2, codes2, g1, ?_, ?_, g4, by omega, g6, g7⟩
    · simp (disch := omega) only [g_X1_readsUnit, b_X1_readsUnit_0, s3, q33, q40, g2, neg_nI, lit_nI, nI_add, pk_mul, pk_sub, nI_clamp, inB_nI, gd_true, bnd_def, nI_leI, nI_ltI, nI_eq, nI_mI, mI_nI, nle_T, nle_F, nlt_T, nlt_F, neq_T, neq_F, ↓reduceIte, Nat.add_zero, Nat.zero_add, Nat.mul_zero, Nat.reduceAdd, Nat.reduceMul, Nat.reduceSub, ob1_e, ob2_e, ob3_e, ob4_e, ob6_e]
    · simp (disch := omega) only [g_X12_unit, b_X12_unit_0, s4, q33, q40, g3, neg_nI, lit_nI, nI_add, pk_mul, pk_sub, nI_clamp, inB_nI, gd_true, bnd_def, nI_leI, nI_ltI, nI_eq, nI_mI, mI_nI, nle_T, nle_F, nlt_T, nlt_F, neq_T, neq_F, ↓reduceIte, Nat.add_zero, Nat.zero_add, Nat.mul_zero, Nat.reduceAdd, Nat.reduceMul, Nat.reduceSub, ob1_e, ob2_e, ob3_e, ob4_e, ob6_e]
end CO
