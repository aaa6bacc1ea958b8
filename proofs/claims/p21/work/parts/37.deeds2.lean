section DF
variable {R : R6} {lh : Int32} {ll l0 l1 l2 l3 : Nat → Int32} {mh : Int32} {mc mv mk mt ms mu : Nat → Int32}
variable {G M s nx : Nat} {th ta tn mg mm bk rows kept c m rf mr : Nat → Int32}
theorem s_meets (hX : RiseX R lh ll l0 l1 l2 l3) (hY : RiseY R mh mc mv mk mt ms mu) (hG : G ≤ 6) (hM : M ≤ 5) (hh : ∀ g, g < G → mg (4 * g) = th g) (ha : ∀ g, g < G → mg (4 * g + 3) = ta g) (hn : ∀ k, k < M → mm (2 * k + 1) = tn k) (hD : RD G M th bk s nx rows kept c m rf mr) (lt st lt2 st2 : Nat → Int32) (x y : Int32) : ∃ r rf' lt' st' c' s' nx' rows' lt2' st2' m' mr' kept', f_X11_meets (nI G) (nI M) th ta tn lh ll l0 l1 l2 l3 rf lt st c (nI s) (nI nx) rows x y = some (r, rf', lt', st', c', nI s', nI nx', rows') ∧ f_X12_meets (nI G) (nI M) mh mc mv mk mt ms mu mg mm (nI s) lt2 st2 m mr kept x y = some (r, nI s', lt2', st2', m', mr', kept') ∧ RD G M th bk s' nx' rows' kept' c' m' rf' mr' := by
  have hD0 := hD
  obtain ⟨d, dd, hC, hA, hd, hF⟩ := hD
  have hN := hC.1
  have hI := hC.2.1
  have m67 : m 67 = c 67 := hN 67 (by omega)
  rcases glove_or x hG with ⟨g, hg, rfl⟩ | ⟨q1, q2⟩
  · rcases glove_or y hG with ⟨o, ho, rfl⟩ | ⟨q1, q2⟩
    · have g1 := hh g hg
      have g2 := hh o ho
      have m1 : m (54 + g) = c (54 + g) := hN (54 + g) (by omega)
      have m2 : m (54 + o) = c (54 + o) := hN (54 + o) (by omega)
      by_cases ht : th g = th o
      · refine ⟨mI 1, _, lt, st, c, s, nx, rows, lt2, st2, m, _, kept, ?_, ?_, hD0.ref 1 (by omega)⟩
        · simp (disch := omega) only [f_X11_meets, b_X11_meets_22, b_X11_meets_68, b_X11_meets_0, hasGlove_y, unlike_c, ht, refuse_c, neg_nI, lit_nI, nI_add, pk_mul, pk_sub, nI_clamp, inB_nI, gd_true, bnd_def, nI_leI, nI_ltI, nI_eq, nI_mI, mI_nI, nle_T, nle_F, nlt_T, nlt_F, neq_T, neq_F, ↓reduceIte, Nat.add_zero, Nat.zero_add, Nat.mul_zero, Nat.reduceAdd, Nat.reduceMul, Nat.reduceSub, ob1_e, ob2_e, ob3_e, ob4_e, ob6_e]
        · simp (disch := omega) only [f_X12_meets, b_X12_meets_70, b_X12_meets_17, b_X12_meets_50, b_X12_meets_0, isGlove_y, areTwo_c, g1, g2, ht, isRefused_c, neg_nI, lit_nI, nI_add, pk_mul, pk_sub, nI_clamp, inB_nI, gd_true, bnd_def, nI_leI, nI_ltI, nI_eq, nI_mI, mI_nI, nle_T, nle_F, nlt_T, nlt_F, neq_T, neq_F, ↓reduceIte, Nat.add_zero, Nat.zero_add, Nat.mul_zero, Nat.reduceAdd, Nat.reduceMul, Nat.reduceSub, ob1_e, ob2_e, ob3_e, ob4_e, ob6_e]
      · by_cases f1 : c (54 + g) = mI 1
        · by_cases f2 : c (54 + o) = mI 1
          · by_cases h3 : nI 1 ≤ c 67
            · obtain ⟨s', nx', rows', kept', dd', k1, k2, k3, k4, k5, k6⟩ := keep_l hG hM hA hd hC
              have hI2 : IV G th (upd c 67 (c 67 - nI 1)) := hI.cong hG fun i hi => by rw [upd_n (by omega)]
              obtain ⟨lt', st', c', lt2', st2', m', e1, e2, e3, e4, e5, e6⟩ := meet_l hX hY hG hM ha hn (hN.put 67 (c 67 - nI 1)) hI2 hg ho ht lt st lt2 st2
              have hp := pl_lt (a := g) (b := o) ⟨by omega, by omega⟩
              have e9 : m' (pl g o) = c' (pl g o) := e3 _ (by omega)
              refine ⟨c' (pl g o), rf, lt', st', c', s', nx', rows', lt2', st2', m', mr, kept', ?_, ?_, d, dd', hC.act e3 e4 ?_ ?_, k3, k4, hF⟩
              · simp (disch := omega) only [f_X11_meets, b_X11_meets_22, b_X11_meets_68, b_X11_meets_0, f_X9_pay, b_X9_pay_0, hasGlove_y, unlike_c, ht, hasMet_c, f1, f2, coins_c, h3, k1, e1, warmthOf_c, neg_nI, lit_nI, nI_add, pk_mul, pk_sub, nI_clamp, inB_nI, gd_true, bnd_def, nI_leI, nI_ltI, nI_eq, nI_mI, mI_nI, nle_T, nle_F, nlt_T, nlt_F, neq_T, neq_F, ↓reduceIte, Nat.add_zero, Nat.zero_add, Nat.mul_zero, Nat.reduceAdd, Nat.reduceMul, Nat.reduceSub, ob1_e, ob2_e, ob3_e, ob4_e, ob6_e]
              · simp (disch := omega) only [f_X12_meets, b_X12_meets_70, b_X12_meets_17, b_X12_meets_50, b_X12_meets_0, isGlove_y, areTwo_c, g1, g2, ht, isFree_c, m1, m2, f1, f2, m67, h3, k2, e2, e9, isRefused_n, pairAt_c, inB_pl, pl_clamp, neg_nI, lit_nI, nI_add, pk_mul, pk_sub, nI_clamp, inB_nI, gd_true, bnd_def, nI_leI, nI_ltI, nI_eq, nI_mI, mI_nI, nle_T, nle_F, nlt_T, nlt_F, neq_T, neq_F, ↓reduceIte, Nat.add_zero, Nat.zero_add, Nat.mul_zero, Nat.reduceAdd, Nat.reduceMul, Nat.reduceSub, ob1_e, ob2_e, ob3_e, ob4_e, ob6_e]
              · rw [e5 68 (by omega), upd_n (by omega)]
              · intro i hi
                rw [e6 i (by omega), upd_n (by omega)]
            · refine ⟨mI 1, _, lt, st, c, s, nx, rows, lt2, st2, m, _, kept, ?_, ?_, hD0.ref 3 (by omega)⟩
              · simp (disch := omega) only [f_X11_meets, b_X11_meets_22, b_X11_meets_68, b_X11_meets_0, hasGlove_y, unlike_c, ht, hasMet_c, f1, f2, coins_c, h3, refuse_c, neg_nI, lit_nI, nI_add, pk_mul, pk_sub, nI_clamp, inB_nI, gd_true, bnd_def, nI_leI, nI_ltI, nI_eq, nI_mI, mI_nI, nle_T, nle_F, nlt_T, nlt_F, neq_T, neq_F, ↓reduceIte, Nat.add_zero, Nat.zero_add, Nat.mul_zero, Nat.reduceAdd, Nat.reduceMul, Nat.reduceSub, ob1_e, ob2_e, ob3_e, ob4_e, ob6_e]
              · simp (disch := omega) only [f_X12_meets, b_X12_meets_70, b_X12_meets_17, b_X12_meets_50, b_X12_meets_0, isGlove_y, areTwo_c, g1, g2, ht, isFree_c, m1, m2, f1, f2, m67, h3, isRefused_c, neg_nI, lit_nI, nI_add, pk_mul, pk_sub, nI_clamp, inB_nI, gd_true, bnd_def, nI_leI, nI_ltI, nI_eq, nI_mI, mI_nI, nle_T, nle_F, nlt_T, nlt_F, neq_T, neq_F, ↓reduceIte, Nat.add_zero, Nat.zero_add, Nat.mul_zero, Nat.reduceAdd, Nat.reduceMul, Nat.reduceSub, ob1_e, ob2_e, ob3_e, ob4_e, ob6_e]
          · refine ⟨mI 1, _, lt, st, c, s, nx, rows, lt2, st2, m, _, kept, ?_, ?_, hD0.ref 2 (by omega)⟩
            · simp (disch := omega) only [f_X11_meets, b_X11_meets_22, b_X11_meets_68, b_X11_meets_0, hasGlove_y, unlike_c, ht, hasMet_c, f1, f2, refuse_c, neg_nI, lit_nI, nI_add, pk_mul, pk_sub, nI_clamp, inB_nI, gd_true, bnd_def, nI_leI, nI_ltI, nI_eq, nI_mI, mI_nI, nle_T, nle_F, nlt_T, nlt_F, neq_T, neq_F, ↓reduceIte, Nat.add_zero, Nat.zero_add, Nat.mul_zero, Nat.reduceAdd, Nat.reduceMul, Nat.reduceSub, ob1_e, ob2_e, ob3_e, ob4_e, ob6_e]
            · simp (disch := omega) only [f_X12_meets, b_X12_meets_70, b_X12_meets_17, b_X12_meets_50, b_X12_meets_0, isGlove_y, areTwo_c, g1, g2, ht, isFree_c, m1, m2, f1, f2, isRefused_c, neg_nI, lit_nI, nI_add, pk_mul, pk_sub, nI_clamp, inB_nI, gd_true, bnd_def, nI_leI, nI_ltI, nI_eq, nI_mI, mI_nI, nle_T, nle_F, nlt_T, nlt_F, neq_T, neq_F, ↓reduceIte, Nat.add_zero, Nat.zero_add, Nat.mul_zero, Nat.reduceAdd, Nat.reduceMul, Nat.reduceSub, ob1_e, ob2_e, ob3_e, ob4_e, ob6_e]
        · refine ⟨mI 1, _, lt, st, c, s, nx, rows, lt2, st2, m, _, kept, ?_, ?_, hD0.ref 2 (by omega)⟩
          · simp (disch := omega) only [f_X11_meets, b_X11_meets_22, b_X11_meets_68, b_X11_meets_0, hasGlove_y, unlike_c, ht, hasMet_c, f1, refuse_c, neg_nI, lit_nI, nI_add, pk_mul, pk_sub, nI_clamp, inB_nI, gd_true, bnd_def, nI_leI, nI_ltI, nI_eq, nI_mI, mI_nI, nle_T, nle_F, nlt_T, nlt_F, neq_T, neq_F, ↓reduceIte, Nat.add_zero, Nat.zero_add, Nat.mul_zero, Nat.reduceAdd, Nat.reduceMul, Nat.reduceSub, ob1_e, ob2_e, ob3_e, ob4_e, ob6_e]
          · simp (disch := omega) only [f_X12_meets, b_X12_meets_70, b_X12_meets_17, b_X12_meets_50, b_X12_meets_0, isGlove_y, areTwo_c, g1, g2, ht, isFree_c, m1, f1, isRefused_c, neg_nI, lit_nI, nI_add, pk_mul, pk_sub, nI_clamp, inB_nI, gd_true, bnd_def, nI_leI, nI_ltI, nI_eq, nI_mI, mI_nI, nle_T, nle_F, nlt_T, nlt_F, neq_T, neq_F, ↓reduceIte, Nat.add_zero, Nat.zero_add, Nat.mul_zero, Nat.reduceAdd, Nat.reduceMul, Nat.reduceSub, ob1_e, ob2_e, ob3_e, ob4_e, ob6_e]
    · refine ⟨mI 1, _, lt, st, c, s, nx, rows, lt2, st2, m, _, kept, ?_, ?_, hD0.ref 0 (by omega)⟩
      · simp (disch := omega) only [f_X11_meets, b_X11_meets_22, b_X11_meets_68, b_X11_meets_0, hasGlove_y, q1, refuse_c, neg_nI, lit_nI, nI_add, pk_mul, pk_sub, nI_clamp, inB_nI, gd_true, bnd_def, nI_leI, nI_ltI, nI_eq, nI_mI, mI_nI, nle_T, nle_F, nlt_T, nlt_F, neq_T, neq_F, ↓reduceIte, Nat.add_zero, Nat.zero_add, Nat.mul_zero, Nat.reduceAdd, Nat.reduceMul, Nat.reduceSub, ob1_e, ob2_e, ob3_e, ob4_e, ob6_e]
      · simp (disch := omega) only [f_X12_meets, b_X12_meets_70, b_X12_meets_17, b_X12_meets_50, b_X12_meets_0, isGlove_y, q2, isRefused_c, neg_nI, lit_nI, nI_add, pk_mul, pk_sub, nI_clamp, inB_nI, gd_true, bnd_def, nI_leI, nI_ltI, nI_eq, nI_mI, mI_nI, nle_T, nle_F, nlt_T, nlt_F, neq_T, neq_F, ↓reduceIte, Nat.add_zero, Nat.zero_add, Nat.mul_zero, Nat.reduceAdd, Nat.reduceMul, Nat.reduceSub, ob1_e, ob2_e, ob3_e, ob4_e, ob6_e]
  · refine ⟨mI 1, _, lt, st, c, s, nx, rows, lt2, st2, m, _, kept, ?_, ?_, hD0.ref 0 (by omega)⟩
    · simp (disch := omega) only [f_X11_meets, b_X11_meets_22, b_X11_meets_68, b_X11_meets_0, q1, refuse_c, neg_nI, lit_nI, nI_add, pk_mul, pk_sub, nI_clamp, inB_nI, gd_true, bnd_def, nI_leI, nI_ltI, nI_eq, nI_mI, mI_nI, nle_T, nle_F, nlt_T, nlt_F, neq_T, neq_F, ↓reduceIte, Nat.add_zero, Nat.zero_add, Nat.mul_zero, Nat.reduceAdd, Nat.reduceMul, Nat.reduceSub, ob1_e, ob2_e, ob3_e, ob4_e, ob6_e]
    · simp (disch := omega) only [f_X12_meets, b_X12_meets_70, b_X12_meets_17, b_X12_meets_50, b_X12_meets_0, q2, isRefused_c, neg_nI, lit_nI, nI_add, pk_mul, pk_sub, nI_clamp, inB_nI, gd_true, bnd_def, nI_leI, nI_ltI, nI_eq, nI_mI, mI_nI, nle_T, nle_F, nlt_T, nlt_F, neq_T, neq_F, ↓reduceIte, Nat.add_zero, Nat.zero_add, Nat.mul_zero, Nat.reduceAdd, Nat.reduceMul, Nat.reduceSub, ob1_e, ob2_e, ob3_e, ob4_e, ob6_e]
theorem days_l {N : Nat} (hG : G ≤ 6) (hM : M ≤ 5) (hh : ∀ g, g < G → mg (4 * g) = th g) (hN6 : N ≤ 60) : ∀ (j k n n' : Nat) (c bk : Nat → Int32) (s nx : Nat) (rows m kept : Nat → Int32) (d : Nat) (dd : Nat → Nat), k + j = N → j < n → j < n' → RC G M th bk d c m → RA G M th bk s nx rows kept dd → dd s = d → d + j ≤ 999 → ∃ c' bk' s' nx' rows' m' kept' dd', f_X11_days_53 (nI G) n rf c bk (nI s) (nI nx) rows (nI N) (nI k) = some (nI (d + j), rf, c', bk', nI s', nI nx', rows') ∧ f_X12_days_49 (nI G) mg n' (nI s) m mr kept (nI N) (nI k) = some (nI (d + j), nI s', m', mr, kept') ∧ RC G M th bk' (d + j) c' m' ∧ RA G M th bk' s' nx' rows' kept' dd' ∧ dd' s' = d + j := by
  intro j
  induction j with
  | zero =>
    intro k n n' c bk s nx rows m kept d dd hk h1 h2 hC hA hd h9
    obtain ⟨n, rfl⟩ : ∃ q, n = q + 1 := ⟨n - 1, by omega⟩
    obtain ⟨n', rfl⟩ : ∃ q, n' = q + 1 := ⟨n' - 1, by omega⟩
    have e1 : c 68 = nI d := hC.2.2.1.1
    have e2 : m 68 = nI d := by rw [hC.1 68 (by omega)]; exact e1
    refine ⟨c, bk, s, nx, rows, m, kept, dd, ?_, ?_, hC, hA, hd⟩
    · simp (disch := omega) only [f_X11_days_53, b_X11_days_53, day_c, e1, neg_nI, lit_nI, nI_add, pk_mul, pk_sub, nI_clamp, inB_nI, gd_true, bnd_def, nI_leI, nI_ltI, nI_eq, nI_mI, mI_nI, nle_T, nle_F, nlt_T, nlt_F, neq_T, neq_F, ↓reduceIte, Nat.add_zero, Nat.zero_add, Nat.mul_zero, Nat.reduceAdd, Nat.reduceMul, Nat.reduceSub, ob1_e, ob2_e, ob3_e, ob4_e, ob6_e]
    · simp (disch := omega) only [f_X12_days_49, b_X12_days_49, e2, neg_nI, lit_nI, nI_add, pk_mul, pk_sub, nI_clamp, inB_nI, gd_true, bnd_def, nI_leI, nI_ltI, nI_eq, nI_mI, mI_nI, nle_T, nle_F, nlt_T, nlt_F, neq_T, neq_F, ↓reduceIte, Nat.add_zero, Nat.zero_add, Nat.mul_zero, Nat.reduceAdd, Nat.reduceMul, Nat.reduceSub, ob1_e, ob2_e, ob3_e, ob4_e, ob6_e]
  | succ j ih =>
    intro k n n' c bk s nx rows m kept d dd hk h1 h2 hC hA hd h9
    obtain ⟨n, rfl⟩ : ∃ q, n = q + 1 := ⟨n - 1, by omega⟩
    obtain ⟨n', rfl⟩ : ∃ q, n' = q + 1 := ⟨n' - 1, by omega⟩
    obtain ⟨s1, nx1, rows1, kept1, dd1, k1, k2, k3, k4, k5, k6⟩ := keep_l hG hM hA hd hC
    obtain ⟨c2, bk2, m2, p1, p2, p3, p4⟩ := pass_l hG hM hh hC (by omega)
    have hA2 := (k3.pass k4 p4).next k5 k6 (show d ≤ d + 1 by omega) (by omega)
    obtain ⟨c', bk', s', nx', rows', m', kept', dd', r1, r2, r3, r4, r5⟩ := ih (k + 1) n n' c2 bk2 s1 nx1 rows1 m2 kept1 (d + 1) _ (by omega) (by omega) (by omega) p3 hA2 (by show (if s1 = s1 then d + 1 else dd1 s1) = d + 1; rw [if_pos rfl]) (by omega)
    rw [show d + 1 + j = d + (j + 1) by omega] at r1 r2 r3 r5
    refine ⟨c', bk', s', nx', rows', m', kept', dd', ?_, ?_, r3, r4, r5⟩
    · rw [← r1]
      simp (disch := omega) only [f_X11_days_53, b_X11_days_53, k1, p1, neg_nI, lit_nI, nI_add, pk_mul, pk_sub, nI_clamp, inB_nI, gd_true, bnd_def, nI_leI, nI_ltI, nI_eq, nI_mI, mI_nI, nle_T, nle_F, nlt_T, nlt_F, neq_T, neq_F, ↓reduceIte, Nat.add_zero, Nat.zero_add, Nat.mul_zero, Nat.reduceAdd, Nat.reduceMul, Nat.reduceSub, ob1_e, ob2_e, ob3_e, ob4_e, ob6_e]
    · rw [← r2]
      simp (disch := omega) only [f_X12_days_49, b_X12_days_49, k2, p2, neg_nI, lit_nI, nI_add, pk_mul, pk_sub, nI_clamp, inB_nI, gd_true, bnd_def, nI_leI, nI_ltI, nI_eq, nI_mI, mI_nI, nle_T, nle_F, nlt_T, nlt_F, neq_T, neq_F, ↓reduceIte, Nat.add_zero, Nat.zero_add, Nat.mul_zero, Nat.reduceAdd, Nat.reduceMul, Nat.reduceSub, ob1_e, ob2_e, ob3_e, ob4_e, ob6_e]
theorem s_days (hG : G ≤ 6) (hM : M ≤ 5) (hh : ∀ g, g < G → mg (4 * g) = th g) (hD : RD G M th bk s nx rows kept c m rf mr) (x : Int32) : ∃ r rf' c' bk' s' nx' rows' m' mr' kept', f_X11_days (nI G) rf c bk (nI s) (nI nx) rows x = some (r, rf', c', bk', nI s', nI nx', rows') ∧ f_X12_days (nI G) mg (nI s) m mr kept x = some (r, nI s', m', mr', kept') ∧ RD G M th bk' s' nx' rows' kept' c' m' rf' mr' := by
  have hD0 := hD
  obtain ⟨d, dd, hC, hA, hd, hF⟩ := hD
  have e1 : c 68 = nI d := hC.2.2.1.1
  have e2 : m 68 = nI d := by rw [hC.1 68 (by omega)]; exact e1
  have hd9 : d ≤ 999 := hC.2.2.1.2
  by_cases g0 : G = 0
  · refine ⟨mI 1, _, c, bk, s, nx, rows, m, _, kept, ?_, ?_, hD0.ref 0 (by omega)⟩
    · simp (disch := omega) only [f_X11_days, b_X11_days_24, b_X11_days_53, b_X11_days_0, noPeace_y g0, refuse_c, neg_nI, lit_nI, nI_add, pk_mul, pk_sub, nI_clamp, inB_nI, gd_true, bnd_def, nI_leI, nI_ltI, nI_eq, nI_mI, mI_nI, nle_T, nle_F, nlt_T, nlt_F, neq_T, neq_F, ↓reduceIte, Nat.add_zero, Nat.zero_add, Nat.mul_zero, Nat.reduceAdd, Nat.reduceMul, Nat.reduceSub, ob1_e, ob2_e, ob3_e, ob4_e, ob6_e]
    · simp (disch := omega) only [f_X12_days, b_X12_days_49, b_X12_days_39, b_X12_days_0, isRefused_c, neg_nI, lit_nI, nI_add, pk_mul, pk_sub, nI_clamp, inB_nI, gd_true, bnd_def, nI_leI, nI_ltI, nI_eq, nI_mI, mI_nI, nle_T, nle_F, nlt_T, nlt_F, neq_T, neq_F, ↓reduceIte, Nat.add_zero, Nat.zero_add, Nat.mul_zero, Nat.reduceAdd, Nat.reduceMul, Nat.reduceSub, ob1_e, ob2_e, ob3_e, ob4_e, ob6_e]
  · rcases rng x 60 (by omega) with ⟨j, hj, rfl⟩ | h0 | ⟨h0, h9, h9'⟩
    · by_cases j0 : j = 0
      · refine ⟨mI 1, _, c, bk, s, nx, rows, m, _, kept, ?_, ?_, hD0.ref 1 (by omega)⟩
        · simp (disch := omega) only [f_X11_days, b_X11_days_24, b_X11_days_53, b_X11_days_0, noPeace_n, refuse_c, neg_nI, lit_nI, nI_add, pk_mul, pk_sub, nI_clamp, inB_nI, gd_true, bnd_def, nI_leI, nI_ltI, nI_eq, nI_mI, mI_nI, nle_T, nle_F, nlt_T, nlt_F, neq_T, neq_F, ↓reduceIte, Nat.add_zero, Nat.zero_add, Nat.mul_zero, Nat.reduceAdd, Nat.reduceMul, Nat.reduceSub, ob1_e, ob2_e, ob3_e, ob4_e, ob6_e]
        · simp (disch := omega) only [f_X12_days, b_X12_days_49, b_X12_days_39, b_X12_days_0, in_lo (x := nI j) (lo := nI 1) (hi := nI 60) (nI_lt (by omega) (by omega)), isRefused_c, neg_nI, lit_nI, nI_add, pk_mul, pk_sub, nI_clamp, inB_nI, gd_true, bnd_def, nI_leI, nI_ltI, nI_eq, nI_mI, mI_nI, nle_T, nle_F, nlt_T, nlt_F, neq_T, neq_F, ↓reduceIte, Nat.add_zero, Nat.zero_add, Nat.mul_zero, Nat.reduceAdd, Nat.reduceMul, Nat.reduceSub, ob1_e, ob2_e, ob3_e, ob4_e, ob6_e]
      · have i1 : f_X12_in (nI j) (nI 1) (nI 60) = some (nI 1) := in_y (nI_nlt (by omega) (by omega)) (nI_nlt (by omega) (by omega))
        by_cases h99 : d + j ≤ 999
        · obtain ⟨c', bk', s', nx', rows', m', kept', dd', r1, r2, r3, r4, r5⟩ := days_l (rf := rf) (mr := mr) (N := j) hG hM hh hj j 0 fu fu c bk s nx rows m kept d dd (by omega) (by have := fu_le; omega) (by have := fu_le; omega) hC hA hd h99
          refine ⟨nI (d + j), rf, c', bk', s', nx', rows', m', mr, kept', ?_, ?_, d + j, dd', r3, r4, r5, hF⟩
          · rw [← r1]
            simp (disch := omega) only [f_X11_days, b_X11_days_24, b_X11_days_53, b_X11_days_0, noPeace_n, day_c, e1, neg_nI, lit_nI, nI_add, pk_mul, pk_sub, nI_clamp, inB_nI, gd_true, bnd_def, nI_leI, nI_ltI, nI_eq, nI_mI, mI_nI, nle_T, nle_F, nlt_T, nlt_F, neq_T, neq_F, ↓reduceIte, Nat.add_zero, Nat.zero_add, Nat.mul_zero, Nat.reduceAdd, Nat.reduceMul, Nat.reduceSub, ob1_e, ob2_e, ob3_e, ob4_e, ob6_e]
          · rw [← r2]
            simp (disch := omega) only [f_X12_days, b_X12_days_49, b_X12_days_39, b_X12_days_0, f_X12_areDays, b_X12_areDays_0, i1, e2, isRefused_n, neg_nI, lit_nI, nI_add, pk_mul, pk_sub, nI_clamp, inB_nI, gd_true, bnd_def, nI_leI, nI_ltI, nI_eq, nI_mI, mI_nI, nle_T, nle_F, nlt_T, nlt_F, neq_T, neq_F, ↓reduceIte, Nat.add_zero, Nat.zero_add, Nat.mul_zero, Nat.reduceAdd, Nat.reduceMul, Nat.reduceSub, ob1_e, ob2_e, ob3_e, ob4_e, ob6_e]
        · refine ⟨mI 1, _, c, bk, s, nx, rows, m, _, kept, ?_, ?_, hD0.ref 4 (by omega)⟩
          · simp (disch := omega) only [f_X11_days, b_X11_days_24, b_X11_days_53, b_X11_days_0, noPeace_n, day_c, e1, refuse_c, neg_nI, lit_nI, nI_add, pk_mul, pk_sub, nI_clamp, inB_nI, gd_true, bnd_def, nI_leI, nI_ltI, nI_eq, nI_mI, mI_nI, nle_T, nle_F, nlt_T, nlt_F, neq_T, neq_F, ↓reduceIte, Nat.add_zero, Nat.zero_add, Nat.mul_zero, Nat.reduceAdd, Nat.reduceMul, Nat.reduceSub, ob1_e, ob2_e, ob3_e, ob4_e, ob6_e]
          · simp (disch := omega) only [f_X12_days, b_X12_days_49, b_X12_days_39, b_X12_days_0, f_X12_areDays, b_X12_areDays_0, i1, e2, isRefused_c, neg_nI, lit_nI, nI_add, pk_mul, pk_sub, nI_clamp, inB_nI, gd_true, bnd_def, nI_leI, nI_ltI, nI_eq, nI_mI, mI_nI, nle_T, nle_F, nlt_T, nlt_F, neq_T, neq_F, ↓reduceIte, Nat.add_zero, Nat.zero_add, Nat.mul_zero, Nat.reduceAdd, Nat.reduceMul, Nat.reduceSub, ob1_e, ob2_e, ob3_e, ob4_e, ob6_e]
    · have h1 : x < nI 1 := by
        rw [lt32] at h0 ⊢
        have a0 : (nI 0).toInt = 0 := by decide
        have a1 : (nI 1).toInt = 1 := by decide
        omega
      refine ⟨mI 1, _, c, bk, s, nx, rows, m, _, kept, ?_, ?_, hD0.ref 1 (by omega)⟩
      · simp (disch := omega) only [f_X11_days, b_X11_days_24, b_X11_days_53, b_X11_days_0, noPeace_n, h1, refuse_c, neg_nI, lit_nI, nI_add, pk_mul, pk_sub, nI_clamp, inB_nI, gd_true, bnd_def, nI_leI, nI_ltI, nI_eq, nI_mI, mI_nI, nle_T, nle_F, nlt_T, nlt_F, neq_T, neq_F, ↓reduceIte, Nat.add_zero, Nat.zero_add, Nat.mul_zero, Nat.reduceAdd, Nat.reduceMul, Nat.reduceSub, ob1_e, ob2_e, ob3_e, ob4_e, ob6_e]
      · simp (disch := omega) only [f_X12_days, b_X12_days_49, b_X12_days_39, b_X12_days_0, in_lo (hi := nI 60) h1, isRefused_c, neg_nI, lit_nI, nI_add, pk_mul, pk_sub, nI_clamp, inB_nI, gd_true, bnd_def, nI_leI, nI_ltI, nI_eq, nI_mI, mI_nI, nle_T, nle_F, nlt_T, nlt_F, neq_T, neq_F, ↓reduceIte, Nat.add_zero, Nat.zero_add, Nat.mul_zero, Nat.reduceAdd, Nat.reduceMul, Nat.reduceSub, ob1_e, ob2_e, ob3_e, ob4_e, ob6_e]
    · have h1 : ¬ x < nI 1 := by
        rw [lt32] at h9 ⊢
        have a0 : (nI 60).toInt = 60 := by decide
        have a1 : (nI 1).toInt = 1 := by decide
        omega
      refine ⟨mI 1, _, c, bk, s, nx, rows, m, _, kept, ?_, ?_, hD0.ref 1 (by omega)⟩
      · simp (disch := omega) only [f_X11_days, b_X11_days_24, b_X11_days_53, b_X11_days_0, noPeace_n, h1, h9', refuse_c, neg_nI, lit_nI, nI_add, pk_mul, pk_sub, nI_clamp, inB_nI, gd_true, bnd_def, nI_leI, nI_ltI, nI_eq, nI_mI, mI_nI, nle_T, nle_F, nlt_T, nlt_F, neq_T, neq_F, ↓reduceIte, Nat.add_zero, Nat.zero_add, Nat.mul_zero, Nat.reduceAdd, Nat.reduceMul, Nat.reduceSub, ob1_e, ob2_e, ob3_e, ob4_e, ob6_e]
      · simp (disch := omega) only [f_X12_days, b_X12_days_49, b_X12_days_39, b_X12_days_0, in_hi (lo := nI 1) h9, isRefused_c, neg_nI, lit_nI, nI_add, pk_mul, pk_sub, nI_clamp, inB_nI, gd_true, bnd_def, nI_leI, nI_ltI, nI_eq, nI_mI, mI_nI, nle_T, nle_F, nlt_T, nlt_F, neq_T, neq_F, ↓reduceIte, Nat.add_zero, Nat.zero_add, Nat.mul_zero, Nat.reduceAdd, Nat.reduceMul, Nat.reduceSub, ob1_e, ob2_e, ob3_e, ob4_e, ob6_e]
end DF
