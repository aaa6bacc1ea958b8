/-! a peace is read by both: the clauses -/
section PF
variable {n : Nat} {t u plT pmT puT : Nat → Int32}
theorem kind_n {b : Nat} (h : b < 2 ^ 30) (h0 : b ≠ 115) (h1 : b ≠ 103) (h2 : b ≠ 109) : f_X6_kindOf (nI b) = some (mI 1) := by
  simp (disch := omega) only [f_X6_kindOf, b_X6_kindOf_0, neg_nI, lit_nI, nI_add, pk_mul, pk_sub, nI_clamp, inB_nI, gd_true, bnd_def, nI_leI, nI_ltI, nI_eq, nI_mI, mI_nI, nle_T, nle_F, nlt_T, nlt_F, neq_T, neq_F, ↓reduceIte, Nat.add_zero, Nat.zero_add, Nat.mul_zero, Nat.reduceAdd, Nat.reduceMul, Nat.reduceSub]
theorem kind_m : f_X6_kindOf (mI 1) = some (mI 1) := by
  simp (disch := omega) only [f_X6_kindOf, b_X6_kindOf_0, neg_nI, lit_nI, nI_add, pk_mul, pk_sub, nI_clamp, inB_nI, gd_true, bnd_def, nI_leI, nI_ltI, nI_eq, nI_mI, mI_nI, nle_T, nle_F, nlt_T, nlt_F, neq_T, neq_F, ↓reduceIte, Nat.add_zero, Nat.zero_add, Nat.mul_zero, Nat.reduceAdd, Nat.reduceMul, Nat.reduceSub]
theorem kind_0 : f_X6_kindOf (nI 115) = some (nI 0) := by
  simp (disch := omega) only [f_X6_kindOf, b_X6_kindOf_0, neg_nI, lit_nI, nI_add, pk_mul, pk_sub, nI_clamp, inB_nI, gd_true, bnd_def, nI_leI, nI_ltI, nI_eq, nI_mI, mI_nI, nle_T, nle_F, nlt_T, nlt_F, neq_T, neq_F, ↓reduceIte, Nat.add_zero, Nat.zero_add, Nat.mul_zero, Nat.reduceAdd, Nat.reduceMul, Nat.reduceSub]
theorem kind_1 : f_X6_kindOf (nI 103) = some (nI 1) := by
  simp (disch := omega) only [f_X6_kindOf, b_X6_kindOf_0, neg_nI, lit_nI, nI_add, pk_mul, pk_sub, nI_clamp, inB_nI, gd_true, bnd_def, nI_leI, nI_ltI, nI_eq, nI_mI, mI_nI, nle_T, nle_F, nlt_T, nlt_F, neq_T, neq_F, ↓reduceIte, Nat.add_zero, Nat.zero_add, Nat.mul_zero, Nat.reduceAdd, Nat.reduceMul, Nat.reduceSub]
theorem kind_2 : f_X6_kindOf (nI 109) = some (nI 2) := by
  simp (disch := omega) only [f_X6_kindOf, b_X6_kindOf_0, neg_nI, lit_nI, nI_add, pk_mul, pk_sub, nI_clamp, inB_nI, gd_true, bnd_def, nI_leI, nI_ltI, nI_eq, nI_mI, mI_nI, nle_T, nle_F, nlt_T, nlt_F, neq_T, neq_F, ↓reduceIte, Nat.add_zero, Nat.zero_add, Nat.mul_zero, Nat.reduceAdd, Nat.reduceMul, Nat.reduceSub]
theorem RP_0 {G M : Nat} {pd cn : Int32} {ho fe st af we ne rr rg rm rr' vl : Nat → Int32} (h : RP G M pd cn ho fe st af we ne rr rg rm) (hv : RV 0 0 vl rr') : RP G M (vl 0) (vl 1) ho fe st af we ne rr' rg rm := by
  obtain ⟨h1, h2, h3, h4, h5, h6⟩ := h
  have w0 := hv 0 (by decide)
  have w1 := hv 1 (by decide)
  exact ⟨h1, h2, w0, w1, h5, h6⟩
theorem RP_1 {G M : Nat} {pd cn : Int32} {ho fe st af we ne rr rg rm rg' vl : Nat → Int32} (hG : G < 6) (h : RP G M pd cn ho fe st af we ne rr rg rm) (hf : FrA 1 (4 * G) rg rg') (hv : RV 1 (4 * G) vl rg') : RP (G + 1) M pd cn (upd ho G (vl 0)) (upd fe G (vl 1)) (upd st G (vl 2)) (upd af G (vl 3)) we ne rr rg' rm := by
  obtain ⟨h1, h2, h3, h4, h5, h6⟩ := h
  refine ⟨by omega, h2, h3, h4, fun g hg => ?_, h6⟩
  by_cases q : g = G
  · subst q
    rw [upd_y rfl, upd_y rfl, upd_y rfl, upd_y rfl]
    exact ⟨hv 0 (by decide), hv 1 (by decide), hv 2 (by decide), hv 3 (by decide)⟩
  · rw [upd_n q, upd_n q, upd_n q, upd_n q, hf (4 * g) (by omega), hf (4 * g + 1) (by omega), hf (4 * g + 2) (by omega), hf (4 * g + 3) (by omega)]
    exact h5 g (by omega)
theorem RP_2 {G M : Nat} {pd cn : Int32} {ho fe st af we ne rr rg rm rm' vl : Nat → Int32} (hM : M < 5) (h : RP G M pd cn ho fe st af we ne rr rg rm) (hf : FrA 2 (2 * M) rm rm') (hv : RV 2 (2 * M) vl rm') : RP G (M + 1) pd cn ho fe st af (upd we M (vl 0)) (upd ne M (vl 1)) rr rg rm' := by
  obtain ⟨h1, h2, h3, h4, h5, h6⟩ := h
  refine ⟨h1, by omega, h3, h4, h5, fun m hm => ?_⟩
  by_cases q : m = M
  · subst q
    rw [upd_y rfl, upd_y rfl]
    exact ⟨hv 0 (by decide), hv 1 (by decide)⟩
  · rw [upd_n q, upd_n q, hf (2 * m) (by omega), hf (2 * m + 1) (by omega)]
    exact h6 m (by omega)
theorem pe_l (hn : n ≤ 240) (h : RT n t u) (tb : TB plT pmT puT) : ∀ (j a cl ru G M : Nat) (vl : Nat → Int32) (pd cn : Int32) (ho fe st af we ne rr rg rm : Nat → Int32), n < a + j → a ≤ n → cl ≤ a → ru ≤ 1 → RP G M pd cn ho fe st af we ne rr rg rm → ∀ kx ky, j ≤ kx → j < ky → PO n (f_X6_readsAll_55 (nI n) t plT pmT puT kx (nI a) (nI ru) vl (nI G) (nI M) pd cn ho fe st af we ne (nI cl)) (f_X12_readPeace_49 (nI n) u ky (nI a) (mI 1) (nI G) (nI M) rr rg rm (nI ru) (nI 1))
  | 0, a, cl, ru, G, M, vl, pd, cn, ho, fe, st, af, we, ne, rr, rg, rm, hj, ha, hc, hru, hR, kx, ky, hkx, hky => by omega
  | j + 1, a, cl, ru, G, M, vl, pd, cn, ho, fe, st, af, we, ne, rr, rg, rm, hj, ha, hc, hru, hR, kx, ky, hkx, hky => by
    obtain ⟨kx, rfl⟩ : ∃ k, kx = k + 1 := ⟨kx - 1, by omega⟩
    obtain ⟨ky, rfl⟩ : ∃ k, ky = k + 1 + 1 := ⟨ky - 2, by omega⟩
    have hG := hR.1
    have hM := hR.2.1
    obtain ⟨a1, c, s1, s2, s3, s4, s5, s6, s7⟩ := sg_c hn h ha
    have hlim : ¬ ((240 : Int32) < nI cl) := by rw [lit_nI, nI_ltI (by omega) (by omega)]; exact Nat.not_lt.mpr (by omega)
    have hbad0 : ∀ (hx : f_X6_readsClause (nI n) t plT pmT puT (nI a) (nI ru) vl (nI G) (nI M) pd cn ho fe st af we ne = some (nI 0, nI a1, nI ru, vl, nI G, nI M, pd, cn, ho, fe, st, af, we, ne)) (hy : b_X12_readPeace_49 (nI n) u (f_X12_readPeace_49 (nI n) u (ky + 1)) (nI a) (mI 1) (nI G) (nI M) rr rg rm (nI ru) (nI 1) = b_X12_readPeace_213 (nI n) u (f_X12_readPeace_49 (nI n) u (ky + 1)) (nI a1) (nI a1) (nI G) (nI M) rr rg rm (nI ru)), PO n (f_X6_readsAll_55 (nI n) t plT pmT puT (kx + 1) (nI a) (nI ru) vl (nI G) (nI M) pd cn ho fe st af we ne (nI cl)) (f_X12_readPeace_49 (nI n) u (ky + 1 + 1) (nI a) (mI 1) (nI G) (nI M) rr rg rm (nI ru) (nI 1)) := by
      intro hx hy
      rw [show f_X6_readsAll_55 (nI n) t plT pmT puT (kx + 1) (nI a) (nI ru) vl (nI G) (nI M) pd cn ho fe st af we ne (nI cl) = b_X6_readsAll_55 (nI n) t plT pmT puT (f_X6_readsAll_55 (nI n) t plT pmT puT kx) (nI a) (nI ru) vl (nI G) (nI M) pd cn ho fe st af we ne (nI cl) from rfl, show f_X12_readPeace_49 (nI n) u (ky + 1 + 1) (nI a) (mI 1) (nI G) (nI M) rr rg rm (nI ru) (nI 1) = b_X12_readPeace_49 (nI n) u (f_X12_readPeace_49 (nI n) u (ky + 1)) (nI a) (mI 1) (nI G) (nI M) rr rg rm (nI ru) (nI 1) from rfl]
      unfold b_X6_readsAll_55
      rw [if_neg hlim]
      rw [hx, ob14_e, hy, pe_b hn s2 (Or.inl rfl), if_pos (show nI 0 = (0 : Int32) from rfl)]
      exact Or.inr ⟨a1, ru, vl, nI G, nI M, pd, cn, ho, fe, st, af, we, ne, nI G, nI M, rr, rg, rm, s2, hru, rfl, rfl⟩
    rcases s7 with ⟨ec, en⟩ | ⟨b, b0, b1, b2, ec, hb, et, eu⟩
    · subst ec
      apply hbad0
      · simp (disch := omega) only [f_X6_readsClause, b_X6_readsClause_0, s3, kind_m, neg_nI, lit_nI, nI_add, pk_mul, pk_sub, nI_clamp, inB_nI, gd_true, bnd_def, nI_leI, nI_ltI, nI_eq, nI_mI, mI_nI, nle_T, nle_F, nlt_T, nlt_F, neq_T, neq_F, ↓reduceIte, Nat.add_zero, Nat.zero_add, Nat.mul_zero, Nat.reduceAdd, Nat.reduceMul, Nat.reduceSub, ob1_e, ob2_e, ob3_e, ob4_e, ob6_e]
      · simp (disch := omega) only [b_X12_readPeace_49, b_X12_readPeace_102, b_X12_readPeace_156, b_X12_readPeace_209, s4, bad_n, neg_nI, lit_nI, nI_add, pk_mul, pk_sub, nI_clamp, inB_nI, gd_true, bnd_def, nI_leI, nI_ltI, nI_eq, nI_mI, mI_nI, nle_T, nle_F, nlt_T, nlt_F, neq_T, neq_F, ↓reduceIte, Nat.add_zero, Nat.zero_add, Nat.mul_zero, Nat.reduceAdd, Nat.reduceMul, Nat.reduceSub, ob1_e, ob2_e, ob3_e, ob4_e, ob6_e]
    subst ec
    by_cases k0 : b = 115
    · subst k0
      by_cases q : ru = 0
      · subst q
        obtain ⟨a2, vl', rr', wr, i1, i2, ⟨i0, i3, i4, i5⟩ | ⟨i3, i4, i5⟩⟩ := items_c hn h tb (kd := 0) (fr := 0) (N := 2) (a := a1 + 1) (by omega) (by decide) (by omega) (by omega) vl rr
        · replace i4 : f_X12_items (nI n) u 2 (nI (a1 + 1)) (mI 1) rr (nI 115) (nI 0) (nI 2) = some (nI a2, mI 1, rr') := i4
          have hx : f_X6_readsClause (nI n) t plT pmT puT (nI a) (nI 0) vl (nI G) (nI M) pd cn ho fe st af we ne = some (nI 1, nI a2, nI 1, vl', nI G, nI M, vl' 0, vl' 1, ho, fe, st, af, we, ne) := by
            simp (disch := omega) only [f_X6_readsClause, b_X6_readsClause_0, s3, kind_0, f_X6_isTooMany, b_X6_isTooMany_0, isZ_0, i3, f_X6_keep, b_X6_keep_0, ob11_e, neg_nI, lit_nI, nI_add, pk_mul, pk_sub, nI_clamp, inB_nI, gd_true, bnd_def, nI_leI, nI_ltI, nI_eq, nI_mI, mI_nI, nle_T, nle_F, nlt_T, nlt_F, neq_T, neq_F, ↓reduceIte, Nat.add_zero, Nat.zero_add, Nat.mul_zero, Nat.reduceAdd, Nat.reduceMul, Nat.reduceSub, ob1_e, ob2_e, ob3_e, ob4_e, ob6_e]
          have hy : b_X12_readPeace_49 (nI n) u (f_X12_readPeace_49 (nI n) u (ky + 1)) (nI a) (mI 1) (nI G) (nI M) rr rg rm (nI 0) (nI 1) = b_X12_readPeace_213 (nI n) u (f_X12_readPeace_49 (nI n) u (ky + 1)) (nI a2) (mI 1) (nI G) (nI M) rr' rg rm (nI 1) := by
            simp (disch := omega) only [b_X12_readPeace_49, s4, i4, neg_nI, lit_nI, nI_add, pk_mul, pk_sub, nI_clamp, inB_nI, gd_true, bnd_def, nI_leI, nI_ltI, nI_eq, nI_mI, mI_nI, nle_T, nle_F, nlt_T, nlt_F, neq_T, neq_F, ↓reduceIte, Nat.add_zero, Nat.zero_add, Nat.mul_zero, Nat.reduceAdd, Nat.reduceMul, Nat.reduceSub, ob1_e, ob2_e, ob3_e, ob4_e, ob6_e]
          rw [show f_X6_readsAll_55 (nI n) t plT pmT puT (kx + 1) (nI a) (nI 0) vl (nI G) (nI M) pd cn ho fe st af we ne (nI cl) = b_X6_readsAll_55 (nI n) t plT pmT puT (f_X6_readsAll_55 (nI n) t plT pmT puT kx) (nI a) (nI 0) vl (nI G) (nI M) pd cn ho fe st af we ne (nI cl) from rfl, show f_X12_readPeace_49 (nI n) u (ky + 1 + 1) (nI a) (mI 1) (nI G) (nI M) rr rg rm (nI 0) (nI 1) = b_X12_readPeace_49 (nI n) u (f_X12_readPeace_49 (nI n) u (ky + 1)) (nI a) (mI 1) (nI G) (nI M) rr rg rm (nI 0) (nI 1) from rfl]
          unfold b_X6_readsAll_55
          rw [if_neg hlim]
          rw [hx, ob14_e, hy, if_neg (show ¬ nI 1 = (0 : Int32) by decide)]
          have hR' := RP_0 hR i5
          exact pe_t hn h (cl := cl) (a := a) hc (by omega) i1 (by omega) hR' (fun a3 h3 h4 => pe_l hn h tb j a3 (cl + 1) 1 G M vl' (vl' 0) (vl' 1) ho fe st af we ne rr' rg rm (by omega) h4 (by omega) (by omega) hR' kx (ky + 1) (by omega) (by omega)) (x0 := 0) (k49 := fun _ _ _ _ _ _ _ _ _ => none)
        · replace i4 : f_X12_items (nI n) u 2 (nI (a1 + 1)) (mI 1) rr (nI 115) (nI 0) (nI 2) = some (nI a2, wr, rr') := i4
          have hx : f_X6_readsClause (nI n) t plT pmT puT (nI a) (nI 0) vl (nI G) (nI M) pd cn ho fe st af we ne = some (nI 0, nI a2, nI 0, vl', nI G, nI M, pd, cn, ho, fe, st, af, we, ne) := by
            simp (disch := omega) only [f_X6_readsClause, b_X6_readsClause_0, s3, kind_0, f_X6_isTooMany, b_X6_isTooMany_0, isZ_0, i3, neg_nI, lit_nI, nI_add, pk_mul, pk_sub, nI_clamp, inB_nI, gd_true, bnd_def, nI_leI, nI_ltI, nI_eq, nI_mI, mI_nI, nle_T, nle_F, nlt_T, nlt_F, neq_T, neq_F, ↓reduceIte, Nat.add_zero, Nat.zero_add, Nat.mul_zero, Nat.reduceAdd, Nat.reduceMul, Nat.reduceSub, ob1_e, ob2_e, ob3_e, ob4_e, ob6_e]
          have hy : b_X12_readPeace_49 (nI n) u (f_X12_readPeace_49 (nI n) u (ky + 1)) (nI a) (mI 1) (nI G) (nI M) rr rg rm (nI 0) (nI 1) = b_X12_readPeace_213 (nI n) u (f_X12_readPeace_49 (nI n) u (ky + 1)) (nI a2) wr (nI G) (nI M) rr' rg rm (nI 1) := by
            simp (disch := omega) only [b_X12_readPeace_49, s4, i4, neg_nI, lit_nI, nI_add, pk_mul, pk_sub, nI_clamp, inB_nI, gd_true, bnd_def, nI_leI, nI_ltI, nI_eq, nI_mI, mI_nI, nle_T, nle_F, nlt_T, nlt_F, neq_T, neq_F, ↓reduceIte, Nat.add_zero, Nat.zero_add, Nat.mul_zero, Nat.reduceAdd, Nat.reduceMul, Nat.reduceSub, ob1_e, ob2_e, ob3_e, ob4_e, ob6_e]
          rw [show f_X6_readsAll_55 (nI n) t plT pmT puT (kx + 1) (nI a) (nI 0) vl (nI G) (nI M) pd cn ho fe st af we ne (nI cl) = b_X6_readsAll_55 (nI n) t plT pmT puT (f_X6_readsAll_55 (nI n) t plT pmT puT kx) (nI a) (nI 0) vl (nI G) (nI M) pd cn ho fe st af we ne (nI cl) from rfl, show f_X12_readPeace_49 (nI n) u (ky + 1 + 1) (nI a) (mI 1) (nI G) (nI M) rr rg rm (nI 0) (nI 1) = b_X12_readPeace_49 (nI n) u (f_X12_readPeace_49 (nI n) u (ky + 1)) (nI a) (mI 1) (nI G) (nI M) rr rg rm (nI 0) (nI 1) from rfl]
          unfold b_X6_readsAll_55
          rw [if_neg hlim]
          rw [hx, ob14_e, hy, pe_b hn i1 i5, if_pos (show nI 0 = (0 : Int32) from rfl)]
          exact Or.inr ⟨a2, 0, vl', nI G, nI M, pd, cn, ho, fe, st, af, we, ne, nI G, nI M, rr', rg, rm, i1, by omega, rfl, rfl⟩
      · obtain rfl : ru = 1 := by omega
        apply hbad0
        · simp (disch := omega) only [f_X6_readsClause, b_X6_readsClause_0, s3, kind_0, f_X6_isTooMany, b_X6_isTooMany_0, isZ_1, neg_nI, lit_nI, nI_add, pk_mul, pk_sub, nI_clamp, inB_nI, gd_true, bnd_def, nI_leI, nI_ltI, nI_eq, nI_mI, mI_nI, nle_T, nle_F, nlt_T, nlt_F, neq_T, neq_F, ↓reduceIte, Nat.add_zero, Nat.zero_add, Nat.mul_zero, Nat.reduceAdd, Nat.reduceMul, Nat.reduceSub, ob1_e, ob2_e, ob3_e, ob4_e, ob6_e]
        · simp (disch := omega) only [b_X12_readPeace_49, b_X12_readPeace_102, b_X12_readPeace_156, b_X12_readPeace_209, s4, bad_n, neg_nI, lit_nI, nI_add, pk_mul, pk_sub, nI_clamp, inB_nI, gd_true, bnd_def, nI_leI, nI_ltI, nI_eq, nI_mI, mI_nI, nle_T, nle_F, nlt_T, nlt_F, neq_T, neq_F, ↓reduceIte, Nat.add_zero, Nat.zero_add, Nat.mul_zero, Nat.reduceAdd, Nat.reduceMul, Nat.reduceSub, ob1_e, ob2_e, ob3_e, ob4_e, ob6_e]
    by_cases k1 : b = 103
    · subst k1
      by_cases q : G < 6
      · obtain ⟨a2, vl', rg', wr, i1, i2, ⟨i0, i3, i4, i5⟩ | ⟨i3, i4, i5⟩⟩ := items_c hn h tb (kd := 1) (fr := 4 * G) (N := 24) (a := a1 + 1) (by omega) (by show 4 * G + 4 ≤ 24; omega) (by omega) (by omega) vl rg
        · replace i4 : f_X12_items (nI n) u 24 (nI (a1 + 1)) (mI 1) rg (nI 103) (nI (4 * G)) (nI 4) = some (nI a2, mI 1, rg') := i4
          have hx : f_X6_readsClause (nI n) t plT pmT puT (nI a) (nI ru) vl (nI G) (nI M) pd cn ho fe st af we ne = some (nI 1, nI a2, nI ru, vl', nI (G + 1), nI M, pd, cn, upd ho G (vl' 0), upd fe G (vl' 1), upd st G (vl' 2), upd af G (vl' 3), we, ne) := by
            simp (disch := omega) only [f_X6_readsClause, b_X6_readsClause_0, s3, kind_1, f_X6_isTooMany, b_X6_isTooMany_0, isZ_0, i3, f_X6_keep, b_X6_keep_0, ob11_e, neg_nI, lit_nI, nI_add, pk_mul, pk_sub, nI_clamp, inB_nI, gd_true, bnd_def, nI_leI, nI_ltI, nI_eq, nI_mI, mI_nI, nle_T, nle_F, nlt_T, nlt_F, neq_T, neq_F, ↓reduceIte, Nat.add_zero, Nat.zero_add, Nat.mul_zero, Nat.reduceAdd, Nat.reduceMul, Nat.reduceSub, ob1_e, ob2_e, ob3_e, ob4_e, ob6_e]
          have hy : b_X12_readPeace_49 (nI n) u (f_X12_readPeace_49 (nI n) u (ky + 1)) (nI a) (mI 1) (nI G) (nI M) rr rg rm (nI ru) (nI 1) = b_X12_readPeace_213 (nI n) u (f_X12_readPeace_49 (nI n) u (ky + 1)) (nI a2) (mI 1) (nI (G + 1)) (nI M) rr rg' rm (nI ru) := by
            simp (disch := omega) only [b_X12_readPeace_49, b_X12_readPeace_102, s4, i4, neg_nI, lit_nI, nI_add, pk_mul, pk_sub, nI_clamp, inB_nI, gd_true, bnd_def, nI_leI, nI_ltI, nI_eq, nI_mI, mI_nI, nle_T, nle_F, nlt_T, nlt_F, neq_T, neq_F, ↓reduceIte, Nat.add_zero, Nat.zero_add, Nat.mul_zero, Nat.reduceAdd, Nat.reduceMul, Nat.reduceSub, ob1_e, ob2_e, ob3_e, ob4_e, ob6_e]
          rw [show f_X6_readsAll_55 (nI n) t plT pmT puT (kx + 1) (nI a) (nI ru) vl (nI G) (nI M) pd cn ho fe st af we ne (nI cl) = b_X6_readsAll_55 (nI n) t plT pmT puT (f_X6_readsAll_55 (nI n) t plT pmT puT kx) (nI a) (nI ru) vl (nI G) (nI M) pd cn ho fe st af we ne (nI cl) from rfl, show f_X12_readPeace_49 (nI n) u (ky + 1 + 1) (nI a) (mI 1) (nI G) (nI M) rr rg rm (nI ru) (nI 1) = b_X12_readPeace_49 (nI n) u (f_X12_readPeace_49 (nI n) u (ky + 1)) (nI a) (mI 1) (nI G) (nI M) rr rg rm (nI ru) (nI 1) from rfl]
          unfold b_X6_readsAll_55
          rw [if_neg hlim]
          rw [hx, ob14_e, hy, if_neg (show ¬ nI 1 = (0 : Int32) by decide)]
          have hR' := RP_1 q hR i2 i5
          exact pe_t hn h (cl := cl) (a := a) hc (by omega) i1 (by omega) hR' (fun a3 h3 h4 => pe_l hn h tb j a3 (cl + 1) ru (G + 1) M vl' pd cn _ _ _ _ we ne rr rg' rm (by omega) h4 (by omega) (by omega) hR' kx (ky + 1) (by omega) (by omega)) (x0 := 0) (k49 := fun _ _ _ _ _ _ _ _ _ => none)
        · replace i4 : f_X12_items (nI n) u 24 (nI (a1 + 1)) (mI 1) rg (nI 103) (nI (4 * G)) (nI 4) = some (nI a2, wr, rg') := i4
          have hx : f_X6_readsClause (nI n) t plT pmT puT (nI a) (nI ru) vl (nI G) (nI M) pd cn ho fe st af we ne = some (nI 0, nI a2, nI ru, vl', nI G, nI M, pd, cn, ho, fe, st, af, we, ne) := by
            simp (disch := omega) only [f_X6_readsClause, b_X6_readsClause_0, s3, kind_1, f_X6_isTooMany, b_X6_isTooMany_0, isZ_0, i3, neg_nI, lit_nI, nI_add, pk_mul, pk_sub, nI_clamp, inB_nI, gd_true, bnd_def, nI_leI, nI_ltI, nI_eq, nI_mI, mI_nI, nle_T, nle_F, nlt_T, nlt_F, neq_T, neq_F, ↓reduceIte, Nat.add_zero, Nat.zero_add, Nat.mul_zero, Nat.reduceAdd, Nat.reduceMul, Nat.reduceSub, ob1_e, ob2_e, ob3_e, ob4_e, ob6_e]
          have hy : b_X12_readPeace_49 (nI n) u (f_X12_readPeace_49 (nI n) u (ky + 1)) (nI a) (mI 1) (nI G) (nI M) rr rg rm (nI ru) (nI 1) = b_X12_readPeace_213 (nI n) u (f_X12_readPeace_49 (nI n) u (ky + 1)) (nI a2) wr (nI (G + 1)) (nI M) rr rg' rm (nI ru) := by
            simp (disch := omega) only [b_X12_readPeace_49, b_X12_readPeace_102, s4, i4, neg_nI, lit_nI, nI_add, pk_mul, pk_sub, nI_clamp, inB_nI, gd_true, bnd_def, nI_leI, nI_ltI, nI_eq, nI_mI, mI_nI, nle_T, nle_F, nlt_T, nlt_F, neq_T, neq_F, ↓reduceIte, Nat.add_zero, Nat.zero_add, Nat.mul_zero, Nat.reduceAdd, Nat.reduceMul, Nat.reduceSub, ob1_e, ob2_e, ob3_e, ob4_e, ob6_e]
          rw [show f_X6_readsAll_55 (nI n) t plT pmT puT (kx + 1) (nI a) (nI ru) vl (nI G) (nI M) pd cn ho fe st af we ne (nI cl) = b_X6_readsAll_55 (nI n) t plT pmT puT (f_X6_readsAll_55 (nI n) t plT pmT puT kx) (nI a) (nI ru) vl (nI G) (nI M) pd cn ho fe st af we ne (nI cl) from rfl, show f_X12_readPeace_49 (nI n) u (ky + 1 + 1) (nI a) (mI 1) (nI G) (nI M) rr rg rm (nI ru) (nI 1) = b_X12_readPeace_49 (nI n) u (f_X12_readPeace_49 (nI n) u (ky + 1)) (nI a) (mI 1) (nI G) (nI M) rr rg rm (nI ru) (nI 1) from rfl]
          unfold b_X6_readsAll_55
          rw [if_neg hlim]
          rw [hx, ob14_e, hy, pe_b hn i1 i5, if_pos (show nI 0 = (0 : Int32) from rfl)]
          exact Or.inr ⟨a2, ru, vl', nI G, nI M, pd, cn, ho, fe, st, af, we, ne, nI (G + 1), nI M, rr, rg', rm, i1, by omega, rfl, rfl⟩
      · obtain rfl : G = 6 := by omega
        apply hbad0
        · simp (disch := omega) only [f_X6_readsClause, b_X6_readsClause_0, s3, kind_1, f_X6_isTooMany, b_X6_isTooMany_0, isZ_1, neg_nI, lit_nI, nI_add, pk_mul, pk_sub, nI_clamp, inB_nI, gd_true, bnd_def, nI_leI, nI_ltI, nI_eq, nI_mI, mI_nI, nle_T, nle_F, nlt_T, nlt_F, neq_T, neq_F, ↓reduceIte, Nat.add_zero, Nat.zero_add, Nat.mul_zero, Nat.reduceAdd, Nat.reduceMul, Nat.reduceSub, ob1_e, ob2_e, ob3_e, ob4_e, ob6_e]
        · simp (disch := omega) only [b_X12_readPeace_49, b_X12_readPeace_102, b_X12_readPeace_156, b_X12_readPeace_209, s4, bad_n, neg_nI, lit_nI, nI_add, pk_mul, pk_sub, nI_clamp, inB_nI, gd_true, bnd_def, nI_leI, nI_ltI, nI_eq, nI_mI, mI_nI, nle_T, nle_F, nlt_T, nlt_F, neq_T, neq_F, ↓reduceIte, Nat.add_zero, Nat.zero_add, Nat.mul_zero, Nat.reduceAdd, Nat.reduceMul, Nat.reduceSub, ob1_e, ob2_e, ob3_e, ob4_e, ob6_e]
    by_cases k2 : b = 109
    · subst k2
      by_cases q : M < 5
      · obtain ⟨a2, vl', rm', wr, i1, i2, ⟨i0, i3, i4, i5⟩ | ⟨i3, i4, i5⟩⟩ := items_c hn h tb (kd := 2) (fr := 2 * M) (N := 10) (a := a1 + 1) (by omega) (by show 2 * M + 2 ≤ 10; omega) (by omega) (by omega) vl rm
        · replace i4 : f_X12_items (nI n) u 10 (nI (a1 + 1)) (mI 1) rm (nI 109) (nI (2 * M)) (nI 2) = some (nI a2, mI 1, rm') := i4
          have hx : f_X6_readsClause (nI n) t plT pmT puT (nI a) (nI ru) vl (nI G) (nI M) pd cn ho fe st af we ne = some (nI 1, nI a2, nI ru, vl', nI G, nI (M + 1), pd, cn, ho, fe, st, af, upd we M (vl' 0), upd ne M (vl' 1)) := by
            simp (disch := omega) only [f_X6_readsClause, b_X6_readsClause_0, s3, kind_2, f_X6_isTooMany, b_X6_isTooMany_0, isZ_0, i3, f_X6_keep, b_X6_keep_0, ob11_e, neg_nI, lit_nI, nI_add, pk_mul, pk_sub, nI_clamp, inB_nI, gd_true, bnd_def, nI_leI, nI_ltI, nI_eq, nI_mI, mI_nI, nle_T, nle_F, nlt_T, nlt_F, neq_T, neq_F, ↓reduceIte, Nat.add_zero, Nat.zero_add, Nat.mul_zero, Nat.reduceAdd, Nat.reduceMul, Nat.reduceSub, ob1_e, ob2_e, ob3_e, ob4_e, ob6_e]
          have hy : b_X12_readPeace_49 (nI n) u (f_X12_readPeace_49 (nI n) u (ky + 1)) (nI a) (mI 1) (nI G) (nI M) rr rg rm (nI ru) (nI 1) = b_X12_readPeace_213 (nI n) u (f_X12_readPeace_49 (nI n) u (ky + 1)) (nI a2) (mI 1) (nI G) (nI (M + 1)) rr rg rm' (nI ru) := by
            simp (disch := omega) only [b_X12_readPeace_49, b_X12_readPeace_102, b_X12_readPeace_156, s4, i4, neg_nI, lit_nI, nI_add, pk_mul, pk_sub, nI_clamp, inB_nI, gd_true, bnd_def, nI_leI, nI_ltI, nI_eq, nI_mI, mI_nI, nle_T, nle_F, nlt_T, nlt_F, neq_T, neq_F, ↓reduceIte, Nat.add_zero, Nat.zero_add, Nat.mul_zero, Nat.reduceAdd, Nat.reduceMul, Nat.reduceSub, ob1_e, ob2_e, ob3_e, ob4_e, ob6_e]
          rw [show f_X6_readsAll_55 (nI n) t plT pmT puT (kx + 1) (nI a) (nI ru) vl (nI G) (nI M) pd cn ho fe st af we ne (nI cl) = b_X6_readsAll_55 (nI n) t plT pmT puT (f_X6_readsAll_55 (nI n) t plT pmT puT kx) (nI a) (nI ru) vl (nI G) (nI M) pd cn ho fe st af we ne (nI cl) from rfl, show f_X12_readPeace_49 (nI n) u (ky + 1 + 1) (nI a) (mI 1) (nI G) (nI M) rr rg rm (nI ru) (nI 1) = b_X12_readPeace_49 (nI n) u (f_X12_readPeace_49 (nI n) u (ky + 1)) (nI a) (mI 1) (nI G) (nI M) rr rg rm (nI ru) (nI 1) from rfl]
          unfold b_X6_readsAll_55
          rw [if_neg hlim]
          rw [hx, ob14_e, hy, if_neg (show ¬ nI 1 = (0 : Int32) by decide)]
          have hR' := RP_2 q hR i2 i5
          exact pe_t hn h (cl := cl) (a := a) hc (by omega) i1 (by omega) hR' (fun a3 h3 h4 => pe_l hn h tb j a3 (cl + 1) ru G (M + 1) vl' pd cn ho fe st af _ _ rr rg rm' (by omega) h4 (by omega) (by omega) hR' kx (ky + 1) (by omega) (by omega)) (x0 := 0) (k49 := fun _ _ _ _ _ _ _ _ _ => none)
        · replace i4 : f_X12_items (nI n) u 10 (nI (a1 + 1)) (mI 1) rm (nI 109) (nI (2 * M)) (nI 2) = some (nI a2, wr, rm') := i4
          have hx : f_X6_readsClause (nI n) t plT pmT puT (nI a) (nI ru) vl (nI G) (nI M) pd cn ho fe st af we ne = some (nI 0, nI a2, nI ru, vl', nI G, nI M, pd, cn, ho, fe, st, af, we, ne) := by
            simp (disch := omega) only [f_X6_readsClause, b_X6_readsClause_0, s3, kind_2, f_X6_isTooMany, b_X6_isTooMany_0, isZ_0, i3, neg_nI, lit_nI, nI_add, pk_mul, pk_sub, nI_clamp, inB_nI, gd_true, bnd_def, nI_leI, nI_ltI, nI_eq, nI_mI, mI_nI, nle_T, nle_F, nlt_T, nlt_F, neq_T, neq_F, ↓reduceIte, Nat.add_zero, Nat.zero_add, Nat.mul_zero, Nat.reduceAdd, Nat.reduceMul, Nat.reduceSub, ob1_e, ob2_e, ob3_e, ob4_e, ob6_e]
          have hy : b_X12_readPeace_49 (nI n) u (f_X12_readPeace_49 (nI n) u (ky + 1)) (nI a) (mI 1) (nI G) (nI M) rr rg rm (nI ru) (nI 1) = b_X12_readPeace_213 (nI n) u (f_X12_readPeace_49 (nI n) u (ky + 1)) (nI a2) wr (nI G) (nI (M + 1)) rr rg rm' (nI ru) := by
            simp (disch := omega) only [b_X12_readPeace_49, b_X12_readPeace_102, b_X12_readPeace_156, s4, i4, neg_nI, lit_nI, nI_add, pk_mul, pk_sub, nI_clamp, inB_nI, gd_true, bnd_def, nI_leI, nI_ltI, nI_eq, nI_mI, mI_nI, nle_T, nle_F, nlt_T, nlt_F, neq_T, neq_F, ↓reduceIte, Nat.add_zero, Nat.zero_add, Nat.mul_zero, Nat.reduceAdd, Nat.reduceMul, Nat.reduceSub, ob1_e, ob2_e, ob3_e, ob4_e, ob6_e]
          rw [show f_X6_readsAll_55 (nI n) t plT pmT puT (kx + 1) (nI a) (nI ru) vl (nI G) (nI M) pd cn ho fe st af we ne (nI cl) = b_X6_readsAll_55 (nI n) t plT pmT puT (f_X6_readsAll_55 (nI n) t plT pmT puT kx) (nI a) (nI ru) vl (nI G) (nI M) pd cn ho fe st af we ne (nI cl) from rfl, show f_X12_readPeace_49 (nI n) u (ky + 1 + 1) (nI a) (mI 1) (nI G) (nI M) rr rg rm (nI ru) (nI 1) = b_X12_readPeace_49 (nI n) u (f_X12_readPeace_49 (nI n) u (ky + 1)) (nI a) (mI 1) (nI G) (nI M) rr rg rm (nI ru) (nI 1) from rfl]
          unfold b_X6_readsAll_55
          rw [if_neg hlim]
          rw [hx, ob14_e, hy, pe_b hn i1 i5, if_pos (show nI 0 = (0 : Int32) from rfl)]
          exact Or.inr ⟨a2, ru, vl', nI G, nI M, pd, cn, ho, fe, st, af, we, ne, nI G, nI (M + 1), rr, rg, rm', i1, by omega, rfl, rfl⟩
      · obtain rfl : M = 5 := by omega
        apply hbad0
        · simp (disch := omega) only [f_X6_readsClause, b_X6_readsClause_0, s3, kind_2, f_X6_isTooMany, b_X6_isTooMany_0, isZ_1, neg_nI, lit_nI, nI_add, pk_mul, pk_sub, nI_clamp, inB_nI, gd_true, bnd_def, nI_leI, nI_ltI, nI_eq, nI_mI, mI_nI, nle_T, nle_F, nlt_T, nlt_F, neq_T, neq_F, ↓reduceIte, Nat.add_zero, Nat.zero_add, Nat.mul_zero, Nat.reduceAdd, Nat.reduceMul, Nat.reduceSub, ob1_e, ob2_e, ob3_e, ob4_e, ob6_e]
        · simp (disch := omega) only [b_X12_readPeace_49, b_X12_readPeace_102, b_X12_readPeace_156, b_X12_readPeace_209, s4, bad_n, neg_nI, lit_nI, nI_add, pk_mul, pk_sub, nI_clamp, inB_nI, gd_true, bnd_def, nI_leI, nI_ltI, nI_eq, nI_mI, mI_nI, nle_T, nle_F, nlt_T, nlt_F, neq_T, neq_F, ↓reduceIte, Nat.add_zero, Nat.zero_add, Nat.mul_zero, Nat.reduceAdd, Nat.reduceMul, Nat.reduceSub, ob1_e, ob2_e, ob3_e, ob4_e, ob6_e]
    · apply hbad0
      · simp (disch := omega) only [f_X6_readsClause, b_X6_readsClause_0, s3, kind_n, neg_nI, lit_nI, nI_add, pk_mul, pk_sub, nI_clamp, inB_nI, gd_true, bnd_def, nI_leI, nI_ltI, nI_eq, nI_mI, mI_nI, nle_T, nle_F, nlt_T, nlt_F, neq_T, neq_F, ↓reduceIte, Nat.add_zero, Nat.zero_add, Nat.mul_zero, Nat.reduceAdd, Nat.reduceMul, Nat.reduceSub, ob1_e, ob2_e, ob3_e, ob4_e, ob6_e]
      · simp (disch := omega) only [b_X12_readPeace_49, b_X12_readPeace_102, b_X12_readPeace_156, b_X12_readPeace_209, s4, bad_n, neg_nI, lit_nI, nI_add, pk_mul, pk_sub, nI_clamp, inB_nI, gd_true, bnd_def, nI_leI, nI_ltI, nI_eq, nI_mI, mI_nI, nle_T, nle_F, nlt_T, nlt_F, neq_T, neq_F, ↓reduceIte, Nat.add_zero, Nat.zero_add, Nat.mul_zero, Nat.reduceAdd, Nat.reduceMul, Nat.reduceSub, ob1_e, ob2_e, ob3_e, ob4_e, ob6_e]
/-- a peace by both -/
theorem s_peace (hn : n ≤ 240) (h : RT n t u) (tb : TB plT pmT puT) (x1 x2 x4 x5 x6 x7 y1 y2 y3 y4 : Int32) (vl ho fe st af we ne rr rg rm : Nat → Int32) : PO n (f_X6_readsAll (nI n) t plT pmT puT x1 x2 vl x4 x5 x6 x7 ho fe st af we ne) (f_X12_readPeace (nI n) u y1 y2 y3 y4 rr rg rm) := by
  have hf := fu_le
  have p0 : puT 0 = nI 4 := (tb 0 (by omega)).2.2
  have p1 : puT 1 = nI 20 := (tb 1 (by omega)).2.2
  have u0 : f_X12_usual (nI 115) (nI 0) = some (nI 4) := uu_c 0 (by omega) 0 (by decide)
  have u1 : f_X12_usual (nI 115) (nI 1) = some (nI 20) := uu_c 0 (by omega) 1 (by decide)
  have hR : RP 0 0 (nI 4) (nI 20) ho fe st af we ne (upd (upd rr 0 (nI 4)) 1 (nI 20)) rg rm := ⟨by omega, by omega, ⟨rfl, 4, by omega, rfl⟩, ⟨rfl, 20, by omega, rfl⟩, fun g hg => by omega, fun m hm => by omega⟩
  have := pe_l hn h tb (n + 1) 0 0 0 0 0 vl (nI 4) (nI 20) ho fe st af we ne _ rg rm (by omega) (by omega) (by omega) (by omega) hR fu fu (by omega) (by omega)
  obtain ⟨k, ef⟩ : ∃ k, fu = k + 1 + 1 + 1 := ⟨fu - 3, by omega⟩
  have ex : f_X6_readsAll (nI n) t plT pmT puT x1 x2 vl x4 x5 x6 x7 ho fe st af we ne = f_X6_readsAll_55 (nI n) t plT pmT puT fu (nI 0) (nI 0) vl (nI 0) (nI 0) (nI 4) (nI 20) ho fe st af we ne (nI 0) := by
    simp (disch := omega) only [f_X6_readsAll, b_X6_readsAll_0, p0, p1, neg_nI, lit_nI, nI_add, pk_mul, pk_sub, nI_clamp, inB_nI, gd_true, bnd_def, nI_leI, nI_ltI, nI_eq, nI_mI, mI_nI, nle_T, nle_F, nlt_T, nlt_F, neq_T, neq_F, ↓reduceIte, Nat.add_zero, Nat.zero_add, Nat.mul_zero, Nat.reduceAdd, Nat.reduceMul, Nat.reduceSub, ob1_e, ob2_e, ob3_e, ob4_e, ob6_e]
  have ey : f_X12_readPeace (nI n) u y1 y2 y3 y4 rr rg rm = f_X12_readPeace_49 (nI n) u fu (nI 0) (mI 1) (nI 0) (nI 0) (upd (upd rr 0 (nI 4)) 1 (nI 20)) rg rm (nI 0) (nI 1) := by
    have e24 : ∀ m, f_X12_readPeace_24 (nI n) u (m + 1 + 1 + 1) (nI 0) (mI 1) (nI 0) (nI 0) rr rg rm (nI 0) (nI 0) = f_X12_readPeace_49 (nI n) u fu (nI 0) (mI 1) (nI 0) (nI 0) (upd (upd rr 0 (nI 4)) 1 (nI 20)) rg rm (nI 0) (nI 1) := by
      intro m
      simp (disch := omega) only [f_X12_readPeace_24, b_X12_readPeace_24, u0, u1, neg_nI, lit_nI, nI_add, pk_mul, pk_sub, nI_clamp, inB_nI, gd_true, bnd_def, nI_leI, nI_ltI, nI_eq, nI_mI, mI_nI, nle_T, nle_F, nlt_T, nlt_F, neq_T, neq_F, ↓reduceIte, Nat.add_zero, Nat.zero_add, Nat.mul_zero, Nat.reduceAdd, Nat.reduceMul, Nat.reduceSub, ob1_e, ob2_e, ob3_e, ob4_e, ob6_e]
    show f_X12_readPeace_24 (nI n) u fu (nI 0) (mI 1) (nI 0) (nI 0) rr rg rm (nI 0) (nI 0) = _
    rw [show f_X12_readPeace_24 (nI n) u fu = f_X12_readPeace_24 (nI n) u (k + 1 + 1 + 1) by rw [ef]]
    exact e24 k
  rw [ex, ey]
  exact this
end PF
