/-! the acts: each by both -/
theorem refuse_c {rf : Nat → Int32} {k : Nat} (h : k < 5) : f_X11_refuse rf (nI k) = some (mI 1, upd rf k (rf k + nI 1)) := by
  simp (disch := omega) only [f_X11_refuse, b_X11_refuse_0, neg_nI, lit_nI, nI_add, pk_mul, pk_sub, nI_clamp, inB_nI, gd_true, bnd_def, nI_leI, nI_ltI, nI_eq, nI_mI, mI_nI, nle_T, nle_F, nlt_T, nlt_F, neq_T, neq_F, ↓reduceIte, Nat.add_zero, Nat.zero_add, Nat.mul_zero, Nat.reduceAdd, Nat.reduceMul, Nat.reduceSub, ob1_e, ob2_e, ob3_e, ob4_e, ob6_e]
theorem isRefused_c {rf : Nat → Int32} {k : Nat} (h : k < 5) : f_X12_isRefused rf (nI k) = some (nI 1, upd rf k (rf k + nI 1)) := by
  simp (disch := omega) only [f_X12_isRefused, b_X12_isRefused_0, b_X12_isRefused_15, neg_nI, lit_nI, nI_add, pk_mul, pk_sub, nI_clamp, inB_nI, gd_true, bnd_def, nI_leI, nI_ltI, nI_eq, nI_mI, mI_nI, nle_T, nle_F, nlt_T, nlt_F, neq_T, neq_F, ↓reduceIte, Nat.add_zero, Nat.zero_add, Nat.mul_zero, Nat.reduceAdd, Nat.reduceMul, Nat.reduceSub, ob1_e, ob2_e, ob3_e, ob4_e, ob6_e]
theorem isRefused_n {rf : Nat → Int32} : f_X12_isRefused rf (mI 1) = some (nI 0, rf) := (rfl)
def RF (rf mr : Nat → Int32) : Prop := ∀ i, i < 5 → mr i = rf i
theorem RF.put {rf mr : Nat → Int32} (h : RF rf mr) (k : Nat) (hk : k < 5) : RF (upd rf k (rf k + nI 1)) (upd mr k (mr k + nI 1)) := by
  intro i hi
  by_cases e : i = k
  · rw [upd_y e, upd_y e, h k hk]
  · rw [upd_n e, upd_n e]
    exact h i hi
def RD (G M : Nat) (th bk : Nat → Int32) (s nx : Nat) (rows kept c m rf mr : Nat → Int32) : Prop := ∃ d dd, RC G M th bk d c m ∧ RA G M th bk s nx rows kept dd ∧ dd s = d ∧ RF rf mr
theorem RC.act {G M d : Nat} {th bk c m c' m' : Nat → Int32} (hC : RC G M th bk d c m) (hN : RN G M c' m') (hI : IV G th c') (h68 : c' 68 = c 68) (hm : ∀ i, 69 ≤ i → m' i = m i) : RC G M th bk d c' m' := by
  obtain ⟨h1, h2, h3, h4, h5⟩ := hC
  refine ⟨hN, hI, by rw [h68]; exact h3, by rw [hm 69 (by omega)]; exact h4, fun r hr w hw => ?_⟩
  rw [hm _ (by omega)]
  exact h5 r hr w hw
theorem RD.ref {G M s nx : Nat} {th bk rows kept c m rf mr : Nat → Int32} (h : RD G M th bk s nx rows kept c m rf mr) (k : Nat) (hk : k < 5) : RD G M th bk s nx rows kept c m (upd rf k (rf k + nI 1)) (upd mr k (mr k + nI 1)) := by
  obtain ⟨d, dd, h1, h2, h3, h4⟩ := h
  exact ⟨d, dd, h1, h2, h3, h4.put k hk⟩
theorem noPeace_y {G : Nat} (h : G = 0) : f_X11_noPeace (nI G) = some (nI 1) := by subst h; rfl
theorem noPeace_n {G : Nat} (h : 0 < G ∧ G ≤ 6) : f_X11_noPeace (nI G) = some (nI 0) := by
  simp (disch := omega) only [f_X11_noPeace, b_X11_noPeace_0, neg_nI, lit_nI, nI_add, pk_mul, pk_sub, nI_clamp, inB_nI, gd_true, bnd_def, nI_leI, nI_ltI, nI_eq, nI_mI, mI_nI, nle_T, nle_F, nlt_T, nlt_F, neq_T, neq_F, ↓reduceIte, Nat.add_zero, Nat.zero_add, Nat.mul_zero, Nat.reduceAdd, Nat.reduceMul, Nat.reduceSub, ob1_e, ob2_e, ob3_e, ob4_e, ob6_e]
theorem sub_negI (x y : Int32) : x - -y = x + y := by rw [Int32.sub_eq_add_neg, Int32.neg_neg]
section DE
variable {G M s nx : Nat} {th bk rows kept c m rf mr : Nat → Int32}
theorem s_loosen (hG : G ≤ 6) (hM : M ≤ 5) (hD : RD G M th bk s nx rows kept c m rf mr) (x : Int32) : ∃ r rf' c' s' nx' rows' m' mr' kept', f_X11_loosen (nI G) rf c (nI s) (nI nx) rows x = some (r, rf', c', nI s', nI nx', rows') ∧ f_X12_loosen (nI G) (nI s) m mr kept x = some (r, nI s', m', mr', kept') ∧ RD G M th bk s' nx' rows' kept' c' m' rf' mr' := by
  have hD0 := hD
  obtain ⟨d, dd, hC, hA, hd, hF⟩ := hD
  have hN := hC.1
  have hI := hC.2.1
  have m67 : m 67 = c 67 := hN 67 (by omega)
  rcases glove_or x hG with ⟨g, hg, rfl⟩ | ⟨q1, q2⟩
  · have mg : m (36 + g) = c (36 + g) := hN (36 + g) (by omega)
    obtain ⟨f, hf, ef⟩ := hI.2.1 g hg
    by_cases f9 : f = 9
    · refine ⟨mI 1, _, c, s, nx, rows, m, _, kept, ?_, ?_, hD0.ref 2 (by omega)⟩
      · simp (disch := omega) only [f_X11_loosen, b_X11_loosen_0, hasGlove_y, free_c, coins_c, ef, f9, refuse_c, neg_nI, lit_nI, nI_add, pk_mul, pk_sub, nI_clamp, inB_nI, gd_true, bnd_def, nI_leI, nI_ltI, nI_eq, nI_mI, mI_nI, nle_T, nle_F, nlt_T, nlt_F, neq_T, neq_F, ↓reduceIte, Nat.add_zero, Nat.zero_add, Nat.mul_zero, Nat.reduceAdd, Nat.reduceMul, Nat.reduceSub, ob1_e, ob2_e, ob3_e, ob4_e, ob6_e]
      · simp (disch := omega) only [f_X12_loosen, b_X12_loosen_47, b_X12_loosen_0, isGlove_y, mg, ef, f9, isRefused_c, neg_nI, lit_nI, nI_add, pk_mul, pk_sub, nI_clamp, inB_nI, gd_true, bnd_def, nI_leI, nI_ltI, nI_eq, nI_mI, mI_nI, nle_T, nle_F, nlt_T, nlt_F, neq_T, neq_F, ↓reduceIte, Nat.add_zero, Nat.zero_add, Nat.mul_zero, Nat.reduceAdd, Nat.reduceMul, Nat.reduceSub, ob1_e, ob2_e, ob3_e, ob4_e, ob6_e]
    · by_cases h3 : nI 3 ≤ c 67
      · obtain ⟨s', nx', rows', kept', dd', k1, k2, k3, k4, k5, k6⟩ := keep_l hG hM hA hd hC
        refine ⟨nI (f + 1), rf, upd (upd c 67 (c 67 - nI 3)) (36 + g) (nI (f + 1)), s', nx', rows', upd (upd m (36 + g) (nI (f + 1))) 67 (c 67 - nI 3), mr, kept', ?_, ?_, d, dd', hC.act ?_ ?_ ?_ ?_, k3, k4, hF⟩
        · simp (disch := omega) only [f_X11_loosen, b_X11_loosen_0, f_X9_pay, b_X9_pay_0, f_X9_setFree, b_X9_setFree_0, hasGlove_y, free_c, coins_c, ef, h3, k1, upd_n, upd_y, neg_nI, lit_nI, nI_add, pk_mul, pk_sub, nI_clamp, inB_nI, gd_true, bnd_def, nI_leI, nI_ltI, nI_eq, nI_mI, mI_nI, nle_T, nle_F, nlt_T, nlt_F, neq_T, neq_F, ↓reduceIte, Nat.add_zero, Nat.zero_add, Nat.mul_zero, Nat.reduceAdd, Nat.reduceMul, Nat.reduceSub, ob1_e, ob2_e, ob3_e, ob4_e, ob6_e]
        · simp (disch := omega) only [f_X12_loosen, b_X12_loosen_47, b_X12_loosen_0, isGlove_y, mg, m67, ef, h3, k2, isRefused_n, upd_n, upd_y, neg_nI, lit_nI, nI_add, pk_mul, pk_sub, nI_clamp, inB_nI, gd_true, bnd_def, nI_leI, nI_ltI, nI_eq, nI_mI, mI_nI, nle_T, nle_F, nlt_T, nlt_F, neq_T, neq_F, ↓reduceIte, Nat.add_zero, Nat.zero_add, Nat.mul_zero, Nat.reduceAdd, Nat.reduceMul, Nat.reduceSub, ob1_e, ob2_e, ob3_e, ob4_e, ob6_e]
        · intro i hi
          by_cases e1 : i = 67
          · rw [upd_y e1, upd_n (by omega), upd_y e1]
          · by_cases e2 : i = 36 + g
            · rw [upd_n e1, upd_y e2, upd_y e2]
            · rw [upd_n e1, upd_n e2, upd_n e2, upd_n e1]
              exact hN i hi
        · refine ⟨fun i hi => ?_, fun q hq => ?_, ?_⟩
          · rw [upd_n (by omega), upd_n (by omega)]
            exact hI.1 i hi
          · by_cases e : q = g
            · rw [upd_y (by omega)]
              exact ⟨f + 1, by omega, rfl⟩
            · rw [upd_n (by omega), upd_n (by omega)]
              exact hI.2.1 q hq
          · rw [upd_n (by omega), upd_n (by omega)]
            exact hI.2.2
        · rw [upd_n (by omega), upd_n (by omega)]
        · intro i hi
          rw [upd_n (by omega), upd_n (by omega)]
      · refine ⟨mI 1, _, c, s, nx, rows, m, _, kept, ?_, ?_, hD0.ref 3 (by omega)⟩
        · simp (disch := omega) only [f_X11_loosen, b_X11_loosen_0, hasGlove_y, free_c, coins_c, ef, h3, refuse_c, neg_nI, lit_nI, nI_add, pk_mul, pk_sub, nI_clamp, inB_nI, gd_true, bnd_def, nI_leI, nI_ltI, nI_eq, nI_mI, mI_nI, nle_T, nle_F, nlt_T, nlt_F, neq_T, neq_F, ↓reduceIte, Nat.add_zero, Nat.zero_add, Nat.mul_zero, Nat.reduceAdd, Nat.reduceMul, Nat.reduceSub, ob1_e, ob2_e, ob3_e, ob4_e, ob6_e]
        · simp (disch := omega) only [f_X12_loosen, b_X12_loosen_47, b_X12_loosen_0, isGlove_y, mg, m67, ef, h3, isRefused_c, neg_nI, lit_nI, nI_add, pk_mul, pk_sub, nI_clamp, inB_nI, gd_true, bnd_def, nI_leI, nI_ltI, nI_eq, nI_mI, mI_nI, nle_T, nle_F, nlt_T, nlt_F, neq_T, neq_F, ↓reduceIte, Nat.add_zero, Nat.zero_add, Nat.mul_zero, Nat.reduceAdd, Nat.reduceMul, Nat.reduceSub, ob1_e, ob2_e, ob3_e, ob4_e, ob6_e]
  · refine ⟨mI 1, _, c, s, nx, rows, m, _, kept, ?_, ?_, hD0.ref 0 (by omega)⟩
    · simp (disch := omega) only [f_X11_loosen, b_X11_loosen_0, q1, refuse_c, neg_nI, lit_nI, nI_add, pk_mul, pk_sub, nI_clamp, inB_nI, gd_true, bnd_def, nI_leI, nI_ltI, nI_eq, nI_mI, mI_nI, nle_T, nle_F, nlt_T, nlt_F, neq_T, neq_F, ↓reduceIte, Nat.add_zero, Nat.zero_add, Nat.mul_zero, Nat.reduceAdd, Nat.reduceMul, Nat.reduceSub, ob1_e, ob2_e, ob3_e, ob4_e, ob6_e]
    · simp (disch := omega) only [f_X12_loosen, b_X12_loosen_47, b_X12_loosen_0, q2, isRefused_c, neg_nI, lit_nI, nI_add, pk_mul, pk_sub, nI_clamp, inB_nI, gd_true, bnd_def, nI_leI, nI_ltI, nI_eq, nI_mI, mI_nI, nle_T, nle_F, nlt_T, nlt_F, neq_T, neq_F, ↓reduceIte, Nat.add_zero, Nat.zero_add, Nat.mul_zero, Nat.reduceAdd, Nat.reduceMul, Nat.reduceSub, ob1_e, ob2_e, ob3_e, ob4_e, ob6_e]
theorem s_stuff (hG : G ≤ 6) (hM : M ≤ 5) (hD : RD G M th bk s nx rows kept c m rf mr) (x v : Int32) : ∃ r rf' c' s' nx' rows' m' mr' kept', f_X11_stuff (nI G) rf c (nI s) (nI nx) rows x v = some (r, rf', c', nI s', nI nx', rows') ∧ f_X12_stuff (nI G) (nI s) m mr kept x v = some (r, nI s', m', mr', kept') ∧ RD G M th bk s' nx' rows' kept' c' m' rf' mr' := by
  have hD0 := hD
  obtain ⟨d, dd, hC, hA, hd, hF⟩ := hD
  have hN := hC.1
  have hI := hC.2.1
  have m67 : m 67 = c 67 := hN 67 (by omega)
  rcases glove_or x hG with ⟨g, hg, rfl⟩ | ⟨q1, q2⟩
  · have mg : m (42 + g) = c (42 + g) := hN (42 + g) (by omega)
    rcases rng v 9 (by omega) with ⟨j, hj, rfl⟩ | h0 | ⟨h0, h9, h9'⟩
    · by_cases hs : c (42 + g) = nI j
      · refine ⟨mI 1, _, c, s, nx, rows, m, _, kept, ?_, ?_, hD0.ref 2 (by omega)⟩
        · simp (disch := omega) only [f_X11_stuff, b_X11_stuff_27, b_X11_stuff_0, hasGlove_y, stuffed_c, hs, refuse_c, neg_nI, lit_nI, nI_add, pk_mul, pk_sub, nI_clamp, inB_nI, gd_true, bnd_def, nI_leI, nI_ltI, nI_eq, nI_mI, mI_nI, nle_T, nle_F, nlt_T, nlt_F, neq_T, neq_F, ↓reduceIte, Nat.add_zero, Nat.zero_add, Nat.mul_zero, Nat.reduceAdd, Nat.reduceMul, Nat.reduceSub, ob1_e, ob2_e, ob3_e, ob4_e, ob6_e]
        · simp (disch := omega) only [f_X12_stuff, b_X12_stuff_60, b_X12_stuff_0, isGlove_y, in_c, mg, hs, isRefused_c, neg_nI, lit_nI, nI_add, pk_mul, pk_sub, nI_clamp, inB_nI, gd_true, bnd_def, nI_leI, nI_ltI, nI_eq, nI_mI, mI_nI, nle_T, nle_F, nlt_T, nlt_F, neq_T, neq_F, ↓reduceIte, Nat.add_zero, Nat.zero_add, Nat.mul_zero, Nat.reduceAdd, Nat.reduceMul, Nat.reduceSub, ob1_e, ob2_e, ob3_e, ob4_e, ob6_e]
      · by_cases h3 : nI 2 ≤ c 67
        · obtain ⟨s', nx', rows', kept', dd', k1, k2, k3, k4, k5, k6⟩ := keep_l hG hM hA hd hC
          refine ⟨c (42 + g), rf, upd (upd c 67 (c 67 - nI 2)) (42 + g) (nI j), s', nx', rows', upd (upd m (42 + g) (nI j)) 67 (c 67 - nI 2), mr, kept', ?_, ?_, d, dd', hC.act ?_ ?_ ?_ ?_, k3, k4, hF⟩
          · simp (disch := omega) only [f_X11_stuff, b_X11_stuff_27, b_X11_stuff_0, f_X9_pay, b_X9_pay_0, f_X9_setStuffed, b_X9_setStuffed_0, hasGlove_y, stuffed_c, coins_c, hs, h3, k1, neg_nI, lit_nI, nI_add, pk_mul, pk_sub, nI_clamp, inB_nI, gd_true, bnd_def, nI_leI, nI_ltI, nI_eq, nI_mI, mI_nI, nle_T, nle_F, nlt_T, nlt_F, neq_T, neq_F, ↓reduceIte, Nat.add_zero, Nat.zero_add, Nat.mul_zero, Nat.reduceAdd, Nat.reduceMul, Nat.reduceSub, ob1_e, ob2_e, ob3_e, ob4_e, ob6_e]
          · simp (disch := omega) only [f_X12_stuff, b_X12_stuff_60, b_X12_stuff_0, isGlove_y, in_c, mg, m67, hs, h3, k2, isRefused_n, upd_n, upd_y, neg_nI, lit_nI, nI_add, pk_mul, pk_sub, nI_clamp, inB_nI, gd_true, bnd_def, nI_leI, nI_ltI, nI_eq, nI_mI, mI_nI, nle_T, nle_F, nlt_T, nlt_F, neq_T, neq_F, ↓reduceIte, Nat.add_zero, Nat.zero_add, Nat.mul_zero, Nat.reduceAdd, Nat.reduceMul, Nat.reduceSub, ob1_e, ob2_e, ob3_e, ob4_e, ob6_e]
          · intro i hi
            by_cases e1 : i = 67
            · rw [upd_y e1, upd_n (by omega), upd_y e1]
            · by_cases e2 : i = 42 + g
              · rw [upd_n e1, upd_y e2, upd_y e2]
              · rw [upd_n e1, upd_n e2, upd_n e2, upd_n e1]
                exact hN i hi
          · refine ⟨fun i hi => ?_, fun q hq => ?_, ?_⟩
            · rw [upd_n (by omega), upd_n (by omega)]
              exact hI.1 i hi
            · rw [upd_n (by omega), upd_n (by omega)]
              exact hI.2.1 q hq
            · rw [upd_n (by omega), upd_n (by omega)]
              exact hI.2.2
          · rw [upd_n (by omega), upd_n (by omega)]
          · intro i hi
            rw [upd_n (by omega), upd_n (by omega)]
        · refine ⟨mI 1, _, c, s, nx, rows, m, _, kept, ?_, ?_, hD0.ref 3 (by omega)⟩
          · simp (disch := omega) only [f_X11_stuff, b_X11_stuff_27, b_X11_stuff_0, hasGlove_y, stuffed_c, coins_c, hs, h3, refuse_c, neg_nI, lit_nI, nI_add, pk_mul, pk_sub, nI_clamp, inB_nI, gd_true, bnd_def, nI_leI, nI_ltI, nI_eq, nI_mI, mI_nI, nle_T, nle_F, nlt_T, nlt_F, neq_T, neq_F, ↓reduceIte, Nat.add_zero, Nat.zero_add, Nat.mul_zero, Nat.reduceAdd, Nat.reduceMul, Nat.reduceSub, ob1_e, ob2_e, ob3_e, ob4_e, ob6_e]
          · simp (disch := omega) only [f_X12_stuff, b_X12_stuff_60, b_X12_stuff_0, isGlove_y, in_c, mg, m67, hs, h3, isRefused_c, neg_nI, lit_nI, nI_add, pk_mul, pk_sub, nI_clamp, inB_nI, gd_true, bnd_def, nI_leI, nI_ltI, nI_eq, nI_mI, mI_nI, nle_T, nle_F, nlt_T, nlt_F, neq_T, neq_F, ↓reduceIte, Nat.add_zero, Nat.zero_add, Nat.mul_zero, Nat.reduceAdd, Nat.reduceMul, Nat.reduceSub, ob1_e, ob2_e, ob3_e, ob4_e, ob6_e]
    · refine ⟨mI 1, _, c, s, nx, rows, m, _, kept, ?_, ?_, hD0.ref 1 (by omega)⟩
      · simp (disch := omega) only [f_X11_stuff, b_X11_stuff_27, b_X11_stuff_0, hasGlove_y, h0, refuse_c, neg_nI, lit_nI, nI_add, pk_mul, pk_sub, nI_clamp, inB_nI, gd_true, bnd_def, nI_leI, nI_ltI, nI_eq, nI_mI, mI_nI, nle_T, nle_F, nlt_T, nlt_F, neq_T, neq_F, ↓reduceIte, Nat.add_zero, Nat.zero_add, Nat.mul_zero, Nat.reduceAdd, Nat.reduceMul, Nat.reduceSub, ob1_e, ob2_e, ob3_e, ob4_e, ob6_e]
      · simp (disch := omega) only [f_X12_stuff, b_X12_stuff_60, b_X12_stuff_0, isGlove_y, in_lo (hi := nI 9) h0, isRefused_c, neg_nI, lit_nI, nI_add, pk_mul, pk_sub, nI_clamp, inB_nI, gd_true, bnd_def, nI_leI, nI_ltI, nI_eq, nI_mI, mI_nI, nle_T, nle_F, nlt_T, nlt_F, neq_T, neq_F, ↓reduceIte, Nat.add_zero, Nat.zero_add, Nat.mul_zero, Nat.reduceAdd, Nat.reduceMul, Nat.reduceSub, ob1_e, ob2_e, ob3_e, ob4_e, ob6_e]
    · refine ⟨mI 1, _, c, s, nx, rows, m, _, kept, ?_, ?_, hD0.ref 1 (by omega)⟩
      · simp (disch := omega) only [f_X11_stuff, b_X11_stuff_27, b_X11_stuff_0, hasGlove_y, h0, h9', refuse_c, neg_nI, lit_nI, nI_add, pk_mul, pk_sub, nI_clamp, inB_nI, gd_true, bnd_def, nI_leI, nI_ltI, nI_eq, nI_mI, mI_nI, nle_T, nle_F, nlt_T, nlt_F, neq_T, neq_F, ↓reduceIte, Nat.add_zero, Nat.zero_add, Nat.mul_zero, Nat.reduceAdd, Nat.reduceMul, Nat.reduceSub, ob1_e, ob2_e, ob3_e, ob4_e, ob6_e]
      · simp (disch := omega) only [f_X12_stuff, b_X12_stuff_60, b_X12_stuff_0, isGlove_y, in_hi (lo := nI 0) h9, isRefused_c, neg_nI, lit_nI, nI_add, pk_mul, pk_sub, nI_clamp, inB_nI, gd_true, bnd_def, nI_leI, nI_ltI, nI_eq, nI_mI, mI_nI, nle_T, nle_F, nlt_T, nlt_F, neq_T, neq_F, ↓reduceIte, Nat.add_zero, Nat.zero_add, Nat.mul_zero, Nat.reduceAdd, Nat.reduceMul, Nat.reduceSub, ob1_e, ob2_e, ob3_e, ob4_e, ob6_e]
  · refine ⟨mI 1, _, c, s, nx, rows, m, _, kept, ?_, ?_, hD0.ref 0 (by omega)⟩
    · simp (disch := omega) only [f_X11_stuff, b_X11_stuff_27, b_X11_stuff_0, q1, refuse_c, neg_nI, lit_nI, nI_add, pk_mul, pk_sub, nI_clamp, inB_nI, gd_true, bnd_def, nI_leI, nI_ltI, nI_eq, nI_mI, mI_nI, nle_T, nle_F, nlt_T, nlt_F, neq_T, neq_F, ↓reduceIte, Nat.add_zero, Nat.zero_add, Nat.mul_zero, Nat.reduceAdd, Nat.reduceMul, Nat.reduceSub, ob1_e, ob2_e, ob3_e, ob4_e, ob6_e]
    · simp (disch := omega) only [f_X12_stuff, b_X12_stuff_60, b_X12_stuff_0, q2, isRefused_c, neg_nI, lit_nI, nI_add, pk_mul, pk_sub, nI_clamp, inB_nI, gd_true, bnd_def, nI_leI, nI_ltI, nI_eq, nI_mI, mI_nI, nle_T, nle_F, nlt_T, nlt_F, neq_T, neq_F, ↓reduceIte, Nat.add_zero, Nat.zero_add, Nat.mul_zero, Nat.reduceAdd, Nat.reduceMul, Nat.reduceSub, ob1_e, ob2_e, ob3_e, ob4_e, ob6_e]
theorem s_swallow (hG : G ≤ 6) (hM : M ≤ 5) (hD : RD G M th bk s nx rows kept c m rf mr) : ∃ r rf' c' s' nx' rows' m' mr' kept', f_X11_swallow (nI G) rf c (nI s) (nI nx) rows = some (r, rf', c', nI s', nI nx', rows') ∧ f_X12_swallow (nI G) (nI s) m mr kept = some (r, nI s', m', mr', kept') ∧ RD G M th bk s' nx' rows' kept' c' m' rf' mr' := by
  have hD0 := hD
  obtain ⟨d, dd, hC, hA, hd, hF⟩ := hD
  have hN := hC.1
  have hI := hC.2.1
  have m67 : m 67 = c 67 := hN 67 (by omega)
  have m66 : m 66 = c 66 := hN 66 (by omega)
  by_cases g0 : G = 0
  · refine ⟨mI 1, _, c, s, nx, rows, m, _, kept, ?_, ?_, hD0.ref 0 (by omega)⟩
    · simp (disch := omega) only [f_X11_swallow, b_X11_swallow_0, noPeace_y g0, refuse_c, neg_nI, lit_nI, nI_add, pk_mul, pk_sub, nI_clamp, inB_nI, gd_true, bnd_def, nI_leI, nI_ltI, nI_eq, nI_mI, mI_nI, nle_T, nle_F, nlt_T, nlt_F, neq_T, neq_F, ↓reduceIte, Nat.add_zero, Nat.zero_add, Nat.mul_zero, Nat.reduceAdd, Nat.reduceMul, Nat.reduceSub, ob1_e, ob2_e, ob3_e, ob4_e, ob6_e]
    · simp (disch := omega) only [f_X12_swallow, b_X12_swallow_42, b_X12_swallow_0, isRefused_c, neg_nI, lit_nI, nI_add, pk_mul, pk_sub, nI_clamp, inB_nI, gd_true, bnd_def, nI_leI, nI_ltI, nI_eq, nI_mI, mI_nI, nle_T, nle_F, nlt_T, nlt_F, neq_T, neq_F, ↓reduceIte, Nat.add_zero, Nat.zero_add, Nat.mul_zero, Nat.reduceAdd, Nat.reduceMul, Nat.reduceSub, ob1_e, ob2_e, ob3_e, ob4_e, ob6_e]
  · by_cases hp : c 66 = nI 0
    · refine ⟨mI 1, _, c, s, nx, rows, m, _, kept, ?_, ?_, hD0.ref 2 (by omega)⟩
      · simp (disch := omega) only [f_X11_swallow, b_X11_swallow_0, noPeace_n, pride_c, hp, refuse_c, neg_nI, lit_nI, nI_add, pk_mul, pk_sub, nI_clamp, inB_nI, gd_true, bnd_def, nI_leI, nI_ltI, nI_eq, nI_mI, mI_nI, nle_T, nle_F, nlt_T, nlt_F, neq_T, neq_F, ↓reduceIte, Nat.add_zero, Nat.zero_add, Nat.mul_zero, Nat.reduceAdd, Nat.reduceMul, Nat.reduceSub, ob1_e, ob2_e, ob3_e, ob4_e, ob6_e]
      · simp (disch := omega) only [f_X12_swallow, b_X12_swallow_42, b_X12_swallow_0, m66, hp, isRefused_c, neg_nI, lit_nI, nI_add, pk_mul, pk_sub, nI_clamp, inB_nI, gd_true, bnd_def, nI_leI, nI_ltI, nI_eq, nI_mI, mI_nI, nle_T, nle_F, nlt_T, nlt_F, neq_T, neq_F, ↓reduceIte, Nat.add_zero, Nat.zero_add, Nat.mul_zero, Nat.reduceAdd, Nat.reduceMul, Nat.reduceSub, ob1_e, ob2_e, ob3_e, ob4_e, ob6_e]
    · by_cases h3 : nI 4 ≤ c 67
      · obtain ⟨s', nx', rows', kept', dd', k1, k2, k3, k4, k5, k6⟩ := keep_l hG hM hA hd hC
        refine ⟨c 66 - nI 1, rf, upd (upd c 67 (c 67 - nI 4)) 66 (c 66 - nI 1), s', nx', rows', upd (upd m 66 (c 66 - nI 1)) 67 (c 67 - nI 4), mr, kept', ?_, ?_, d, dd', hC.act ?_ (hI.cong hG fun i hi => ?_) ?_ ?_, k3, k4, hF⟩
        · simp (disch := omega) only [f_X11_swallow, b_X11_swallow_0, f_X9_pay, b_X9_pay_0, f_X9_setPride, b_X9_setPride_0, noPeace_n, pride_c, coins_c, hp, h3, k1, upd_n, upd_y, neg_nI, lit_nI, nI_add, pk_mul, pk_sub, nI_clamp, inB_nI, gd_true, bnd_def, nI_leI, nI_ltI, nI_eq, nI_mI, mI_nI, nle_T, nle_F, nlt_T, nlt_F, neq_T, neq_F, ↓reduceIte, Nat.add_zero, Nat.zero_add, Nat.mul_zero, Nat.reduceAdd, Nat.reduceMul, Nat.reduceSub, ob1_e, ob2_e, ob3_e, ob4_e, ob6_e]
        · simp (disch := omega) only [f_X12_swallow, b_X12_swallow_42, b_X12_swallow_0, m66, m67, hp, h3, k2, isRefused_n, upd_n, upd_y, neg_nI, lit_nI, nI_add, pk_mul, pk_sub, nI_clamp, inB_nI, gd_true, bnd_def, nI_leI, nI_ltI, nI_eq, nI_mI, mI_nI, nle_T, nle_F, nlt_T, nlt_F, neq_T, neq_F, ↓reduceIte, Nat.add_zero, Nat.zero_add, Nat.mul_zero, Nat.reduceAdd, Nat.reduceMul, Nat.reduceSub, ob1_e, ob2_e, ob3_e, ob4_e, ob6_e]
        · intro i hi
          by_cases e1 : i = 67
          · rw [upd_y e1, upd_n (by omega), upd_y e1]
          · by_cases e2 : i = 66
            · rw [upd_n e1, upd_y e2, upd_y e2]
            · rw [upd_n e1, upd_n e2, upd_n e2, upd_n e1]
              exact hN i hi
        · rw [upd_n (by omega), upd_n (by omega)]
        · rw [upd_n (by omega), upd_n (by omega)]
        · intro i hi
          rw [upd_n (by omega), upd_n (by omega)]
      · refine ⟨mI 1, _, c, s, nx, rows, m, _, kept, ?_, ?_, hD0.ref 3 (by omega)⟩
        · simp (disch := omega) only [f_X11_swallow, b_X11_swallow_0, noPeace_n, pride_c, coins_c, hp, h3, refuse_c, neg_nI, lit_nI, nI_add, pk_mul, pk_sub, nI_clamp, inB_nI, gd_true, bnd_def, nI_leI, nI_ltI, nI_eq, nI_mI, mI_nI, nle_T, nle_F, nlt_T, nlt_F, neq_T, neq_F, ↓reduceIte, Nat.add_zero, Nat.zero_add, Nat.mul_zero, Nat.reduceAdd, Nat.reduceMul, Nat.reduceSub, ob1_e, ob2_e, ob3_e, ob4_e, ob6_e]
        · simp (disch := omega) only [f_X12_swallow, b_X12_swallow_42, b_X12_swallow_0, m66, m67, hp, h3, isRefused_c, neg_nI, lit_nI, nI_add, pk_mul, pk_sub, nI_clamp, inB_nI, gd_true, bnd_def, nI_leI, nI_ltI, nI_eq, nI_mI, mI_nI, nle_T, nle_F, nlt_T, nlt_F, neq_T, neq_F, ↓reduceIte, Nat.add_zero, Nat.zero_add, Nat.mul_zero, Nat.reduceAdd, Nat.reduceMul, Nat.reduceSub, ob1_e, ob2_e, ob3_e, ob4_e, ob6_e]
theorem s_tear (hG : G ≤ 6) (hM : M ≤ 5) (hD : RD G M th bk s nx rows kept c m rf mr) (x : Int32) : ∃ r rf' c' s' nx' rows' m' mr' kept', f_X11_tear (nI M) rf c (nI s) (nI nx) rows x = some (r, rf', c', nI s', nI nx', rows') ∧ f_X12_tear (nI M) (nI s) m mr kept x = some (r, nI s', m', mr', kept') ∧ RD G M th bk s' nx' rows' kept' c' m' rf' mr' := by
  have hD0 := hD
  obtain ⟨d, dd, hC, hA, hd, hF⟩ := hD
  have hN := hC.1
  have hI := hC.2.1
  have m66 : m 66 = c 66 := hN 66 (by omega)
  rcases matter_or x (M := M) (by omega) with ⟨g, hg, rfl⟩ | ⟨q1, q2⟩
  · have mg : m (60 + g) = c (60 + g) := hN (60 + g) (by omega)
    by_cases hs : c (60 + g) = mI 1
    · refine ⟨mI 1, _, c, s, nx, rows, m, _, kept, ?_, ?_, hD0.ref 2 (by omega)⟩
      · simp (disch := omega) only [f_X11_tear, b_X11_tear_0, hasMatter_y, signers_c, hs, refuse_c, neg_nI, lit_nI, nI_add, pk_mul, pk_sub, nI_clamp, inB_nI, gd_true, bnd_def, nI_leI, nI_ltI, nI_eq, nI_mI, mI_nI, nle_T, nle_F, nlt_T, nlt_F, neq_T, neq_F, ↓reduceIte, Nat.add_zero, Nat.zero_add, Nat.mul_zero, Nat.reduceAdd, Nat.reduceMul, Nat.reduceSub, ob1_e, ob2_e, ob3_e, ob4_e, ob6_e]
      · simp (disch := omega) only [f_X12_tear, b_X12_tear_31, b_X12_tear_0, isMatter_y, mg, hs, isRefused_c, neg_nI, lit_nI, nI_add, pk_mul, pk_sub, nI_clamp, inB_nI, gd_true, bnd_def, nI_leI, nI_ltI, nI_eq, nI_mI, mI_nI, nle_T, nle_F, nlt_T, nlt_F, neq_T, neq_F, ↓reduceIte, Nat.add_zero, Nat.zero_add, Nat.mul_zero, Nat.reduceAdd, Nat.reduceMul, Nat.reduceSub, ob1_e, ob2_e, ob3_e, ob4_e, ob6_e]
    · obtain ⟨s', nx', rows', kept', dd', k1, k2, k3, k4, k5, k6⟩ := keep_l hG hM hA hd hC
      refine ⟨mn (nI 9) (c 66 + nI 1), rf, upd (upd c (60 + g) (mI 1)) 66 (mn (nI 9) (c 66 + nI 1)), s', nx', rows', upd (upd m (60 + g) (mI 1)) 66 (mn (nI 9) (c 66 + nI 1)), mr, kept', ?_, ?_, d, dd', hC.act ((hN.put _ _).put _ _) (hI.cong hG fun i hi => ?_) ?_ ?_, k3, k4, hF⟩
      · simp (disch := omega) only [f_X11_tear, b_X11_tear_0, f_X9_tearUp, b_X9_tearUp_0, f_X9_growProud, b_X9_growProud_0, hasMatter_y, signers_c, pride_c, hs, k1, upd_n, upd_y, neg_nI, lit_nI, nI_add, pk_mul, pk_sub, nI_clamp, inB_nI, gd_true, bnd_def, nI_leI, nI_ltI, nI_eq, nI_mI, mI_nI, nle_T, nle_F, nlt_T, nlt_F, neq_T, neq_F, ↓reduceIte, Nat.add_zero, Nat.zero_add, Nat.mul_zero, Nat.reduceAdd, Nat.reduceMul, Nat.reduceSub, ob1_e, ob2_e, ob3_e, ob4_e, ob6_e]
      · simp (disch := omega) only [f_X12_tear, b_X12_tear_31, b_X12_tear_0, isMatter_y, mg, m66, hs, k2, isRefused_n, upd_n, upd_y, neg_nI, lit_nI, nI_add, pk_mul, pk_sub, nI_clamp, inB_nI, gd_true, bnd_def, nI_leI, nI_ltI, nI_eq, nI_mI, mI_nI, nle_T, nle_F, nlt_T, nlt_F, neq_T, neq_F, ↓reduceIte, Nat.add_zero, Nat.zero_add, Nat.mul_zero, Nat.reduceAdd, Nat.reduceMul, Nat.reduceSub, ob1_e, ob2_e, ob3_e, ob4_e, ob6_e]
      · rw [upd_n (by omega), upd_n (by omega)]
      · rw [upd_n (by omega), upd_n (by omega)]
      · intro i hi
        rw [upd_n (by omega), upd_n (by omega)]
  · refine ⟨mI 1, _, c, s, nx, rows, m, _, kept, ?_, ?_, hD0.ref 0 (by omega)⟩
    · simp (disch := omega) only [f_X11_tear, b_X11_tear_0, q1, refuse_c, neg_nI, lit_nI, nI_add, pk_mul, pk_sub, nI_clamp, inB_nI, gd_true, bnd_def, nI_leI, nI_ltI, nI_eq, nI_mI, mI_nI, nle_T, nle_F, nlt_T, nlt_F, neq_T, neq_F, ↓reduceIte, Nat.add_zero, Nat.zero_add, Nat.mul_zero, Nat.reduceAdd, Nat.reduceMul, Nat.reduceSub, ob1_e, ob2_e, ob3_e, ob4_e, ob6_e]
    · simp (disch := omega) only [f_X12_tear, b_X12_tear_31, b_X12_tear_0, q2, isRefused_c, neg_nI, lit_nI, nI_add, pk_mul, pk_sub, nI_clamp, inB_nI, gd_true, bnd_def, nI_leI, nI_ltI, nI_eq, nI_mI, mI_nI, nle_T, nle_F, nlt_T, nlt_F, neq_T, neq_F, ↓reduceIte, Nat.add_zero, Nat.zero_add, Nat.mul_zero, Nat.reduceAdd, Nat.reduceMul, Nat.reduceSub, ob1_e, ob2_e, ob3_e, ob4_e, ob6_e]
theorem s_give (hG : G ≤ 6) (hM : M ≤ 5) (hD : RD G M th bk s nx rows kept c m rf mr) (x : Int32) : ∃ r rf' c' s' nx' rows' m' mr' kept', f_X11_give (nI G) rf c (nI s) (nI nx) rows x = some (r, rf', c', nI s', nI nx', rows') ∧ f_X12_give (nI G) (nI s) m mr kept x = some (r, nI s', m', mr', kept') ∧ RD G M th bk s' nx' rows' kept' c' m' rf' mr' := by
  have hD0 := hD
  obtain ⟨d, dd, hC, hA, hd, hF⟩ := hD
  have hN := hC.1
  have hI := hC.2.1
  have m67 : m 67 = c 67 := hN 67 (by omega)
  by_cases g0 : G = 0
  · refine ⟨mI 1, _, c, s, nx, rows, m, _, kept, ?_, ?_, hD0.ref 0 (by omega)⟩
    · simp (disch := omega) only [f_X11_give, b_X11_give_39, b_X11_give_0, noPeace_y g0, refuse_c, neg_nI, lit_nI, nI_add, pk_mul, pk_sub, nI_clamp, inB_nI, gd_true, bnd_def, nI_leI, nI_ltI, nI_eq, nI_mI, mI_nI, nle_T, nle_F, nlt_T, nlt_F, neq_T, neq_F, ↓reduceIte, Nat.add_zero, Nat.zero_add, Nat.mul_zero, Nat.reduceAdd, Nat.reduceMul, Nat.reduceSub, ob1_e, ob2_e, ob3_e, ob4_e, ob6_e]
    · simp (disch := omega) only [f_X12_give, b_X12_give_42, b_X12_give_37, b_X12_give_0, isRefused_c, neg_nI, lit_nI, nI_add, pk_mul, pk_sub, nI_clamp, inB_nI, gd_true, bnd_def, nI_leI, nI_ltI, nI_eq, nI_mI, mI_nI, nle_T, nle_F, nlt_T, nlt_F, neq_T, neq_F, ↓reduceIte, Nat.add_zero, Nat.zero_add, Nat.mul_zero, Nat.reduceAdd, Nat.reduceMul, Nat.reduceSub, ob1_e, ob2_e, ob3_e, ob4_e, ob6_e]
  · by_cases h1 : x < nI 1
    · refine ⟨mI 1, _, c, s, nx, rows, m, _, kept, ?_, ?_, hD0.ref 1 (by omega)⟩
      · simp (disch := omega) only [f_X11_give, b_X11_give_39, b_X11_give_0, noPeace_n, h1, refuse_c, neg_nI, lit_nI, nI_add, pk_mul, pk_sub, nI_clamp, inB_nI, gd_true, bnd_def, nI_leI, nI_ltI, nI_eq, nI_mI, mI_nI, nle_T, nle_F, nlt_T, nlt_F, neq_T, neq_F, ↓reduceIte, Nat.add_zero, Nat.zero_add, Nat.mul_zero, Nat.reduceAdd, Nat.reduceMul, Nat.reduceSub, ob1_e, ob2_e, ob3_e, ob4_e, ob6_e]
      · simp (disch := omega) only [f_X12_give, b_X12_give_42, b_X12_give_37, b_X12_give_0, in_lo (hi := nI 50) h1, isRefused_c, neg_nI, lit_nI, nI_add, pk_mul, pk_sub, nI_clamp, inB_nI, gd_true, bnd_def, nI_leI, nI_ltI, nI_eq, nI_mI, mI_nI, nle_T, nle_F, nlt_T, nlt_F, neq_T, neq_F, ↓reduceIte, Nat.add_zero, Nat.zero_add, Nat.mul_zero, Nat.reduceAdd, Nat.reduceMul, Nat.reduceSub, ob1_e, ob2_e, ob3_e, ob4_e, ob6_e]
    · by_cases h2 : nI 50 < x
      · refine ⟨mI 1, _, c, s, nx, rows, m, _, kept, ?_, ?_, hD0.ref 1 (by omega)⟩
        · simp (disch := omega) only [f_X11_give, b_X11_give_39, b_X11_give_0, noPeace_n, h1, h2, refuse_c, neg_nI, lit_nI, nI_add, pk_mul, pk_sub, nI_clamp, inB_nI, gd_true, bnd_def, nI_leI, nI_ltI, nI_eq, nI_mI, mI_nI, nle_T, nle_F, nlt_T, nlt_F, neq_T, neq_F, ↓reduceIte, Nat.add_zero, Nat.zero_add, Nat.mul_zero, Nat.reduceAdd, Nat.reduceMul, Nat.reduceSub, ob1_e, ob2_e, ob3_e, ob4_e, ob6_e]
        · simp (disch := omega) only [f_X12_give, b_X12_give_42, b_X12_give_37, b_X12_give_0, in_hi (lo := nI 1) h2, isRefused_c, neg_nI, lit_nI, nI_add, pk_mul, pk_sub, nI_clamp, inB_nI, gd_true, bnd_def, nI_leI, nI_ltI, nI_eq, nI_mI, mI_nI, nle_T, nle_F, nlt_T, nlt_F, neq_T, neq_F, ↓reduceIte, Nat.add_zero, Nat.zero_add, Nat.mul_zero, Nat.reduceAdd, Nat.reduceMul, Nat.reduceSub, ob1_e, ob2_e, ob3_e, ob4_e, ob6_e]
      · by_cases h3 : c 67 + x ≤ nI 999
        · obtain ⟨s', nx', rows', kept', dd', k1, k2, k3, k4, k5, k6⟩ := keep_l hG hM hA hd hC
          refine ⟨c 67 + x, rf, upd c 67 (c 67 + x), s', nx', rows', upd m 67 (c 67 + x), mr, kept', ?_, ?_, d, dd', hC.act (hN.put _ _) (hI.cong hG fun i hi => ?_) ?_ ?_, k3, k4, hF⟩
          · simp (disch := omega) only [f_X11_give, b_X11_give_39, b_X11_give_0, f_X9_pay, b_X9_pay_0, noPeace_n, coins_c, h1, h2, h3, k1, sub_negI, upd_y, neg_nI, lit_nI, nI_add, pk_mul, pk_sub, nI_clamp, inB_nI, gd_true, bnd_def, nI_leI, nI_ltI, nI_eq, nI_mI, mI_nI, nle_T, nle_F, nlt_T, nlt_F, neq_T, neq_F, ↓reduceIte, Nat.add_zero, Nat.zero_add, Nat.mul_zero, Nat.reduceAdd, Nat.reduceMul, Nat.reduceSub, ob1_e, ob2_e, ob3_e, ob4_e, ob6_e]
          · simp (disch := omega) only [f_X12_give, b_X12_give_42, b_X12_give_37, b_X12_give_0, in_y h1 h2, m67, h3, k2, isRefused_n, upd_y, neg_nI, lit_nI, nI_add, pk_mul, pk_sub, nI_clamp, inB_nI, gd_true, bnd_def, nI_leI, nI_ltI, nI_eq, nI_mI, mI_nI, nle_T, nle_F, nlt_T, nlt_F, neq_T, neq_F, ↓reduceIte, Nat.add_zero, Nat.zero_add, Nat.mul_zero, Nat.reduceAdd, Nat.reduceMul, Nat.reduceSub, ob1_e, ob2_e, ob3_e, ob4_e, ob6_e]
          · rw [upd_n (by omega)]
          · rw [upd_n (by omega)]
          · intro i hi
            rw [upd_n (by omega)]
        · refine ⟨mI 1, _, c, s, nx, rows, m, _, kept, ?_, ?_, hD0.ref 1 (by omega)⟩
          · simp (disch := omega) only [f_X11_give, b_X11_give_39, b_X11_give_0, noPeace_n, coins_c, h1, h2, h3, refuse_c, neg_nI, lit_nI, nI_add, pk_mul, pk_sub, nI_clamp, inB_nI, gd_true, bnd_def, nI_leI, nI_ltI, nI_eq, nI_mI, mI_nI, nle_T, nle_F, nlt_T, nlt_F, neq_T, neq_F, ↓reduceIte, Nat.add_zero, Nat.zero_add, Nat.mul_zero, Nat.reduceAdd, Nat.reduceMul, Nat.reduceSub, ob1_e, ob2_e, ob3_e, ob4_e, ob6_e]
          · simp (disch := omega) only [f_X12_give, b_X12_give_42, b_X12_give_37, b_X12_give_0, in_y h1 h2, m67, h3, isRefused_c, neg_nI, lit_nI, nI_add, pk_mul, pk_sub, nI_clamp, inB_nI, gd_true, bnd_def, nI_leI, nI_ltI, nI_eq, nI_mI, mI_nI, nle_T, nle_F, nlt_T, nlt_F, neq_T, neq_F, ↓reduceIte, Nat.add_zero, Nat.zero_add, Nat.mul_zero, Nat.reduceAdd, Nat.reduceMul, Nat.reduceSub, ob1_e, ob2_e, ob3_e, ob4_e, ob6_e]
end DE
