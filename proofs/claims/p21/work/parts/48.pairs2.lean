/-! the warmest and the coldest pair; what is due; the most -/
section PM
variable {G M : Nat} {th ta tw tn mg mm c m : Nat → Int32}
/-- the best pair so far, by both -/
def BP (G : Nat) (th c : Nat → Int32) (f best most : Int32) (done : Nat → Nat → Prop) : Prop := (best = mI 1 ∧ ∀ x y, done x y → x < y → y < G → th x = th y) ∨ (∃ a b, a < b ∧ b < G ∧ ¬ th a = th b ∧ best = nI (10 * a + b) ∧ most = f * c (pl a b) ∧ ∀ x y, done x y → x < y → y < G → ¬ th x = th y → f * c (pl x y) ≤ f * c (pl a b))
theorem mulf {f : Int32} (hf : f = nI 1 ∨ f = mI 1) {x y : Nat} (hx : x ≤ 99) (hy : y ≤ 99) : (f * (nI x - nI y) ≤ nI 0) ↔ (f * nI x ≤ f * nI y) := by
  have a0 : (nI 0).toInt = 0 := by decide
  have ax : (nI x).toInt = (x : Int) := nI_toInt (by omega)
  have ay : (nI y).toInt = (y : Int) := nI_toInt (by omega)
  have as : (nI x - nI y).toInt = (x : Int) - y := pk_sub_toInt (by omega) (by omega)
  rcases hf with rfl | rfl
  · have a1 : (nI 1).toInt = 1 := by decide
    rw [le32, le32, Int32.toInt_mul, Int32.toInt_mul, Int32.toInt_mul, a0, a1, ax, ay, as, Int.one_mul, Int.one_mul, Int.one_mul, Int.bmod_eq_of_le (by omega) (by omega), Int.bmod_eq_of_le (by omega) (by omega), Int.bmod_eq_of_le (by omega) (by omega)]
    omega
  · have a1 : (mI 1).toInt = -1 := by decide
    rw [le32, le32, Int32.toInt_mul, Int32.toInt_mul, Int32.toInt_mul, a0, a1, ax, ay, as, Int.bmod_eq_of_le (by omega) (by omega), Int.bmod_eq_of_le (by omega) (by omega), Int.bmod_eq_of_le (by omega) (by omega)]
    omega
theorem pm_in {f : Int32} (hf : f = nI 1 ∨ f = mI 1) (hG : G ≤ 6) (hh : ∀ g, g < G → mg (4 * g) = th g) (hN : RN G M c m) (hI : IV G th c) {a : Nat} (ha : a < G) {kx : Int32 → Int32 → Int32 → Option Int32} {ky : Int32 → Int32 → Int32 → Int32 → Option Int32} : ∀ (j o n n' : Nat) (best most : Int32), o + j = G → a < o → j < n → j < n' → BP G th c f best most (fun x y => x < a ∨ (x = a ∧ y < o)) → ∃ best' most', f_X9_pairMost_20 (nI G) th c kx n f best (nI a) (nI o) = kx f best' (nI (a + 1)) ∧ f_X12_topPair_22 (nI G) mg m ky n' f best most (nI a) (nI o) = ky f best' most' (nI (a + 1)) ∧ BP G th c f best' most' (fun x y => x < a + 1) := by
  intro j
  induction j with
  | zero =>
    intro o n n' best most ho hao h1 h2 hB
    obtain ⟨n, rfl⟩ : ∃ q, n = q + 1 := ⟨n - 1, by omega⟩
    obtain ⟨n', rfl⟩ : ∃ q, n' = q + 1 := ⟨n' - 1, by omega⟩
    refine ⟨best, most, ?_, ?_, ?_⟩
    · simp (disch := omega) only [f_X9_pairMost_20, b_X9_pairMost_20, neg_nI, lit_nI, nI_add, pk_mul, pk_sub, nI_clamp, inB_nI, gd_true, bnd_def, nI_leI, nI_ltI, nI_eq, nI_mI, mI_nI, nle_T, nle_F, nlt_T, nlt_F, neq_T, neq_F, ↓reduceIte, Nat.add_zero, Nat.zero_add, Nat.mul_zero, Nat.reduceAdd, Nat.reduceMul, Nat.reduceSub, ob1_e, ob2_e, ob3_e, ob4_e, ob6_e]
    · simp (disch := omega) only [f_X12_topPair_22, b_X12_topPair_22, neg_nI, lit_nI, nI_add, pk_mul, pk_sub, nI_clamp, inB_nI, gd_true, bnd_def, nI_leI, nI_ltI, nI_eq, nI_mI, mI_nI, nle_T, nle_F, nlt_T, nlt_F, neq_T, neq_F, ↓reduceIte, Nat.add_zero, Nat.zero_add, Nat.mul_zero, Nat.reduceAdd, Nat.reduceMul, Nat.reduceSub, ob1_e, ob2_e, ob3_e, ob4_e, ob6_e]
    · rcases hB with ⟨e, q⟩ | ⟨x, y, q1, q2, q3, q4, q5, q6⟩
      · exact Or.inl ⟨e, fun x y z1 z2 z3 => q x y (by omega) z2 z3⟩
      · exact Or.inr ⟨x, y, q1, q2, q3, q4, q5, fun u v z1 z2 z3 => q6 u v (by omega) z2 z3⟩
  | succ j ih =>
    intro o n n' best most ho hao h1 h2 hB
    obtain ⟨n, rfl⟩ : ∃ q, n = q + 1 := ⟨n - 1, by omega⟩
    obtain ⟨n', rfl⟩ : ∃ q, n' = q + 1 := ⟨n' - 1, by omega⟩
    have g1 := hh a ha
    have g2 := hh o (by omega)
    have hp := pl_lt (a := a) (b := o) ⟨by omega, by omega⟩
    have em : m (pl a o) = c (pl a o) := hN _ (by omega)
    have ecd : cd a o = 10 * a + o := by unfold cd; rw [if_neg (by omega)]
    by_cases ht : th a = th o
    · have hB2 : BP G th c f best most (fun x y => x < a ∨ (x = a ∧ y < o + 1)) := by
        rcases hB with ⟨e, q⟩ | ⟨x, y, q1, q2, q3, q4, q5, q6⟩
        · refine Or.inl ⟨e, fun x y z1 z2 z3 => ?_⟩
          by_cases e2 : x = a ∧ y = o
          · rw [e2.1, e2.2]; exact ht
          · exact q x y (by omega) z2 z3
        · refine Or.inr ⟨x, y, q1, q2, q3, q4, q5, fun u v z1 z2 z3 z4 => ?_⟩
          by_cases e2 : u = a ∧ v = o
          · rw [e2.1, e2.2] at z4
            exact absurd ht z4
          · exact q6 u v (by omega) z2 z3 z4
      obtain ⟨b', m', e1, e2, e3⟩ := ih (o + 1) n n' best most (by omega) (by omega) (by omega) (by omega) hB2
      refine ⟨b', m', ?_, ?_, e3⟩
      · rw [← e1]
        simp (disch := omega) only [f_X9_pairMost_20, b_X9_pairMost_20, b_X9_pairMost_83, unlike_c, ht, neg_nI, lit_nI, nI_add, pk_mul, pk_sub, nI_clamp, inB_nI, gd_true, bnd_def, nI_leI, nI_ltI, nI_eq, nI_mI, mI_nI, nle_T, nle_F, nlt_T, nlt_F, neq_T, neq_F, ↓reduceIte, Nat.add_zero, Nat.zero_add, Nat.mul_zero, Nat.reduceAdd, Nat.reduceMul, Nat.reduceSub, ob1_e, ob2_e, ob3_e, ob4_e, ob6_e]
      · rw [← e2]
        simp (disch := omega) only [f_X12_topPair_22, b_X12_topPair_22, b_X12_topPair_88, areTwo_c, g1, g2, ht, neg_nI, lit_nI, nI_add, pk_mul, pk_sub, nI_clamp, inB_nI, gd_true, bnd_def, nI_leI, nI_ltI, nI_eq, nI_mI, mI_nI, nle_T, nle_F, nlt_T, nlt_F, neq_T, neq_F, ↓reduceIte, Nat.add_zero, Nat.zero_add, Nat.mul_zero, Nat.reduceAdd, Nat.reduceMul, Nat.reduceSub, ob1_e, ob2_e, ob3_e, ob4_e, ob6_e]
    · rcases hB with ⟨rfl, q⟩ | ⟨x, y, q1, q2, q3, rfl, rfl, q6⟩
      · have hB2 : BP G th c f (nI (10 * a + o)) (f * c (pl a o)) (fun x y => x < a ∨ (x = a ∧ y < o + 1)) := by
          refine Or.inr ⟨a, o, hao, by omega, ht, rfl, rfl, fun u v z1 z2 z3 z4 => ?_⟩
          by_cases e2 : u = a ∧ v = o
          · rw [e2.1, e2.2, le32]; omega
          · exact absurd (q u v (by omega) z2 z3) z4
        obtain ⟨b', m', e1, e2, e3⟩ := ih (o + 1) n n' _ _ (by omega) (by omega) (by omega) (by omega) hB2
        refine ⟨b', m', ?_, ?_, e3⟩
        · rw [← e1]
          simp (disch := omega) only [f_X9_pairMost_20, b_X9_pairMost_20, b_X9_pairMost_83, b_X9_pairMost_75, unlike_c, ht, neg_nI, lit_nI, nI_add, pk_mul, pk_sub, nI_clamp, inB_nI, gd_true, bnd_def, nI_leI, nI_ltI, nI_eq, nI_mI, mI_nI, nle_T, nle_F, nlt_T, nlt_F, neq_T, neq_F, ↓reduceIte, Nat.add_zero, Nat.zero_add, Nat.mul_zero, Nat.reduceAdd, Nat.reduceMul, Nat.reduceSub, ob1_e, ob2_e, ob3_e, ob4_e, ob6_e]
        · rw [← e2]
          simp (disch := omega) only [f_X12_topPair_22, b_X12_topPair_22, b_X12_topPair_88, b_X12_topPair_65, areTwo_c, g1, g2, ht, codeOf_c, ecd, pairAt_c, inB_pl, pl_clamp, em, neg_nI, lit_nI, nI_add, pk_mul, pk_sub, nI_clamp, inB_nI, gd_true, bnd_def, nI_leI, nI_ltI, nI_eq, nI_mI, mI_nI, nle_T, nle_F, nlt_T, nlt_F, neq_T, neq_F, ↓reduceIte, Nat.add_zero, Nat.zero_add, Nat.mul_zero, Nat.reduceAdd, Nat.reduceMul, Nat.reduceSub, ob1_e, ob2_e, ob3_e, ob4_e, ob6_e]
      · have hp2 := pl_lt (a := x) (b := y) ⟨by omega, by omega⟩
        obtain ⟨w1, hw1, ew1, -⟩ := hI.1 (pl a o) hp
        obtain ⟨w2, hw2, ew2, -⟩ := hI.1 (pl x y) hp2
        have ed : nI (10 * x + y) / nI 10 = nI x := by
          rw [pk_div (by omega) (by omega) (by omega), show (10 * x + y) / 10 = x by omega]
        have er : rem (nI (10 * x + y)) (nI 10) = nI y := by
          rw [show rem (nI (10 * x + y)) (nI 10) = nI ((10 * x + y) % 10) from pk_rem (by omega) (by omega) (by omega), show (10 * x + y) % 10 = y by omega]
        by_cases hv : f * c (pl a o) ≤ f * c (pl x y)
        · have hv2 : f * (c (pl a o) - c (pl x y)) ≤ nI 0 := by
            rw [ew1, ew2] at hv ⊢
            exact (mulf hf hw1 hw2).mpr hv
          have hB2 : BP G th c f (nI (10 * x + y)) (f * c (pl x y)) (fun x y => x < a ∨ (x = a ∧ y < o + 1)) := by
            refine Or.inr ⟨x, y, q1, q2, q3, rfl, rfl, fun u v z1 z2 z3 z4 => ?_⟩
            by_cases e2 : u = a ∧ v = o
            · rw [e2.1, e2.2]; exact hv
            · exact q6 u v (by omega) z2 z3 z4
          obtain ⟨b', m', e1, e2, e3⟩ := ih (o + 1) n n' _ _ (by omega) (by omega) (by omega) (by omega) hB2
          refine ⟨b', m', ?_, ?_, e3⟩
          · rw [← e1]
            simp (disch := omega) only [f_X9_pairMost_20, b_X9_pairMost_20, b_X9_pairMost_83, b_X9_pairMost_75, unlike_c, ht, warmthOf_c, ed, er, hv2, neg_nI, lit_nI, nI_add, pk_mul, pk_sub, nI_clamp, inB_nI, gd_true, bnd_def, nI_leI, nI_ltI, nI_eq, nI_mI, mI_nI, nle_T, nle_F, nlt_T, nlt_F, neq_T, neq_F, ↓reduceIte, Nat.add_zero, Nat.zero_add, Nat.mul_zero, Nat.reduceAdd, Nat.reduceMul, Nat.reduceSub, ob1_e, ob2_e, ob3_e, ob4_e, ob6_e]
          · rw [← e2]
            simp (disch := omega) only [f_X12_topPair_22, b_X12_topPair_22, b_X12_topPair_88, b_X12_topPair_65, areTwo_c, g1, g2, ht, pairAt_c, inB_pl, pl_clamp, em, hv, neg_nI, lit_nI, nI_add, pk_mul, pk_sub, nI_clamp, inB_nI, gd_true, bnd_def, nI_leI, nI_ltI, nI_eq, nI_mI, mI_nI, nle_T, nle_F, nlt_T, nlt_F, neq_T, neq_F, ↓reduceIte, Nat.add_zero, Nat.zero_add, Nat.mul_zero, Nat.reduceAdd, Nat.reduceMul, Nat.reduceSub, ob1_e, ob2_e, ob3_e, ob4_e, ob6_e]
        · have hv2 : ¬ f * (c (pl a o) - c (pl x y)) ≤ nI 0 := by
            rw [ew1, ew2] at hv ⊢
            exact fun z => hv ((mulf hf hw1 hw2).mp z)
          have hB2 : BP G th c f (nI (10 * a + o)) (f * c (pl a o)) (fun x y => x < a ∨ (x = a ∧ y < o + 1)) := by
            refine Or.inr ⟨a, o, hao, by omega, ht, rfl, rfl, fun u v z1 z2 z3 z4 => ?_⟩
            by_cases e2 : u = a ∧ v = o
            · rw [e2.1, e2.2, le32]; omega
            · have z5 := q6 u v (by omega) z2 z3 z4
              rw [le32] at hv z5 ⊢
              omega
          obtain ⟨b', m', e1, e2, e3⟩ := ih (o + 1) n n' _ _ (by omega) (by omega) (by omega) (by omega) hB2
          refine ⟨b', m', ?_, ?_, e3⟩
          · rw [← e1]
            simp (disch := omega) only [f_X9_pairMost_20, b_X9_pairMost_20, b_X9_pairMost_83, b_X9_pairMost_75, unlike_c, ht, warmthOf_c, ed, er, hv2, neg_nI, lit_nI, nI_add, pk_mul, pk_sub, nI_clamp, inB_nI, gd_true, bnd_def, nI_leI, nI_ltI, nI_eq, nI_mI, mI_nI, nle_T, nle_F, nlt_T, nlt_F, neq_T, neq_F, ↓reduceIte, Nat.add_zero, Nat.zero_add, Nat.mul_zero, Nat.reduceAdd, Nat.reduceMul, Nat.reduceSub, ob1_e, ob2_e, ob3_e, ob4_e, ob6_e]
          · rw [← e2]
            simp (disch := omega) only [f_X12_topPair_22, b_X12_topPair_22, b_X12_topPair_88, b_X12_topPair_65, areTwo_c, g1, g2, ht, codeOf_c, ecd, pairAt_c, inB_pl, pl_clamp, em, hv, neg_nI, lit_nI, nI_add, pk_mul, pk_sub, nI_clamp, inB_nI, gd_true, bnd_def, nI_leI, nI_ltI, nI_eq, nI_mI, mI_nI, nle_T, nle_F, nlt_T, nlt_F, neq_T, neq_F, ↓reduceIte, Nat.add_zero, Nat.zero_add, Nat.mul_zero, Nat.reduceAdd, Nat.reduceMul, Nat.reduceSub, ob1_e, ob2_e, ob3_e, ob4_e, ob6_e]
theorem pm_out {f : Int32} (hf : f = nI 1 ∨ f = mI 1) (hG : G ≤ 6) (hh : ∀ g, g < G → mg (4 * g) = th g) (hN : RN G M c m) (hI : IV G th c) : ∀ (j a n n' : Nat) (best most : Int32), a + j = G → j < n → j < n' → BP G th c f best most (fun x y => x < a) → ∃ r most', f_X9_pairMost_4 (nI G) th c n f best (nI a) = some r ∧ f_X12_topPair_7 (nI G) mg m n' f best most (nI a) = some r ∧ BP G th c f r most' (fun x y => x < G) := by
  intro j
  induction j with
  | zero =>
    intro a n n' best most ha h1 h2 hB
    obtain ⟨n, rfl⟩ : ∃ q, n = q + 1 := ⟨n - 1, by omega⟩
    obtain ⟨n', rfl⟩ : ∃ q, n' = q + 1 := ⟨n' - 1, by omega⟩
    have ea : a = G := by omega
    subst ea
    refine ⟨best, most, ?_, ?_, hB⟩
    · simp (disch := omega) only [f_X9_pairMost_4, b_X9_pairMost_4, neg_nI, lit_nI, nI_add, pk_mul, pk_sub, nI_clamp, inB_nI, gd_true, bnd_def, nI_leI, nI_ltI, nI_eq, nI_mI, mI_nI, nle_T, nle_F, nlt_T, nlt_F, neq_T, neq_F, ↓reduceIte, Nat.add_zero, Nat.zero_add, Nat.mul_zero, Nat.reduceAdd, Nat.reduceMul, Nat.reduceSub, ob1_e, ob2_e, ob3_e, ob4_e, ob6_e]
    · simp (disch := omega) only [f_X12_topPair_7, b_X12_topPair_7, neg_nI, lit_nI, nI_add, pk_mul, pk_sub, nI_clamp, inB_nI, gd_true, bnd_def, nI_leI, nI_ltI, nI_eq, nI_mI, mI_nI, nle_T, nle_F, nlt_T, nlt_F, neq_T, neq_F, ↓reduceIte, Nat.add_zero, Nat.zero_add, Nat.mul_zero, Nat.reduceAdd, Nat.reduceMul, Nat.reduceSub, ob1_e, ob2_e, ob3_e, ob4_e, ob6_e]
  | succ j ih =>
    intro a n n' best most ha h1 h2 hB
    obtain ⟨n, rfl⟩ : ∃ q, n = q + 1 := ⟨n - 1, by omega⟩
    obtain ⟨n', rfl⟩ : ∃ q, n' = q + 1 := ⟨n' - 1, by omega⟩
    have hB2 : BP G th c f best most (fun x y => x < a ∨ (x = a ∧ y < a + 1)) := by
      rcases hB with ⟨e, q⟩ | ⟨x, y, q1, q2, q3, q4, q5, q6⟩
      · exact Or.inl ⟨e, fun x y z1 z2 z3 => q x y (by omega) z2 z3⟩
      · exact Or.inr ⟨x, y, q1, q2, q3, q4, q5, fun u v z1 z2 z3 z4 => q6 u v (by omega) z2 z3 z4⟩
    obtain ⟨b1, m1, p1, p2, p3⟩ := pm_in hf hG hh hN hI (show a < G by omega) (kx := f_X9_pairMost_4 (nI G) th c n) (ky := f_X12_topPair_7 (nI G) mg m n') (G - (a + 1)) (a + 1) fu fu best most (by omega) (by omega) (by have := fu_le; omega) (by have := fu_le; omega) hB2
    obtain ⟨r, m', e1, e2, e3⟩ := ih (a + 1) n n' b1 m1 (by omega) (by omega) (by omega) p3
    refine ⟨r, m', ?_, ?_, e3⟩
    · rw [← e1, ← p1]
      simp (disch := omega) only [f_X9_pairMost_4, b_X9_pairMost_4, neg_nI, lit_nI, nI_add, pk_mul, pk_sub, nI_clamp, inB_nI, gd_true, bnd_def, nI_leI, nI_ltI, nI_eq, nI_mI, mI_nI, nle_T, nle_F, nlt_T, nlt_F, neq_T, neq_F, ↓reduceIte, Nat.add_zero, Nat.zero_add, Nat.mul_zero, Nat.reduceAdd, Nat.reduceMul, Nat.reduceSub, ob1_e, ob2_e, ob3_e, ob4_e, ob6_e]
    · rw [← e2, ← p2]
      simp (disch := omega) only [f_X12_topPair_7, b_X12_topPair_7, neg_nI, lit_nI, nI_add, pk_mul, pk_sub, nI_clamp, inB_nI, gd_true, bnd_def, nI_leI, nI_ltI, nI_eq, nI_mI, mI_nI, nle_T, nle_F, nlt_T, nlt_F, neq_T, neq_F, ↓reduceIte, Nat.add_zero, Nat.zero_add, Nat.mul_zero, Nat.reduceAdd, Nat.reduceMul, Nat.reduceSub, ob1_e, ob2_e, ob3_e, ob4_e, ob6_e]
theorem pm_c {f : Int32} (hf : f = nI 1 ∨ f = mI 1) (hG : G ≤ 6) (hh : ∀ g, g < G → mg (4 * g) = th g) (hN : RN G M c m) (hI : IV G th c) : ∃ r most', f_X9_pairMost (nI G) th c f = some r ∧ f_X12_topPair (nI G) mg m f = some r ∧ BP G th c f r most' (fun x y => x < G) := pm_out hf hG hh hN hI G 0 fu fu (mI 1) (nI 0) (by omega) (by have := fu_le; omega) (by have := fu_le; omega) (Or.inl ⟨rfl, fun x y z => by omega⟩)
/-! due -/
def dmF (c : Nat → Int32) : Nat → Nat → Int32 → Int32
  | 0, _, v => v
  | j + 1, k, v => dmF c j (k + 1) (mx v (c k))
theorem mx_nI {a b : Nat} (ha : a < 2 ^ 31) (hb : b < 2 ^ 31) : mx (nI a) (nI b) = nI (max a b) := by
  show (if nI a < nI b then nI b else nI a) = _
  by_cases e : a < b
  · rw [if_pos (nI_lt e hb), Nat.max_eq_right (by omega)]
  · rw [if_neg (nI_nlt (by omega) ha), Nat.max_eq_left (by omega)]
theorem dmF_p {c : Nat → Int32} : ∀ (j k v : Nat), v ≤ 99 → (∀ i, k ≤ i → i < k + j → ∃ w, w ≤ 99 ∧ c i = nI w) → ∃ r, r ≤ 99 ∧ dmF c j k (nI v) = nI r ∧ v ≤ r ∧ (∀ i w, k ≤ i → i < k + j → w ≤ 99 → c i = nI w → w ≤ r) ∧ (r = v ∨ ∃ i, k ≤ i ∧ i < k + j ∧ c i = nI r)
  | 0, k, v, hv, _ => ⟨v, hv, rfl, Nat.le_refl v, fun i w h1 h2 => by omega, Or.inl rfl⟩
  | j + 1, k, v, hv, h => by
    obtain ⟨w, hw, ew⟩ := h k (by omega) (by omega)
    obtain ⟨r, r1, r2, r3, r4, r5⟩ := dmF_p j (k + 1) (max v w) (by omega) (fun i h1 h2 => h i (by omega) (by omega))
    refine ⟨r, r1, ?_, by omega, fun i u h1 h2 h3 h4 => ?_, ?_⟩
    · unfold dmF
      rw [ew, mx_nI (by omega) (by omega)]
      exact r2
    · by_cases e : i = k
      · rw [e, ew] at h4
        have := nI_inj (by omega) (by omega) h4
        omega
      · exact r4 i u (by omega) (by omega) h3 h4
    · rcases r5 with q | ⟨i, q1, q2, q3⟩
      · by_cases e : v < w
        · exact Or.inr ⟨k, by omega, by omega, by rw [ew]; congr 1; omega⟩
        · exact Or.inl (by omega)
      · exact Or.inr ⟨i, by omega, by omega, q3⟩
theorem dueY_l : ∀ (j k n : Nat) (v : Int32), k + j = 36 → j < n → f_X12_due_4 (nI M) mm m n v (nI k) = f_X12_due_33 (nI M) mm m fu (dmF m j k v) (nI 0) (nI 0) := by
  intro j
  induction j with
  | zero =>
    intro k n v hk h1
    obtain ⟨n, rfl⟩ : ∃ q, n = q + 1 := ⟨n - 1, by omega⟩
    simp (disch := omega) only [f_X12_due_4, b_X12_due_4, dmF, neg_nI, lit_nI, nI_add, pk_mul, pk_sub, nI_clamp, inB_nI, gd_true, bnd_def, nI_leI, nI_ltI, nI_eq, nI_mI, mI_nI, nle_T, nle_F, nlt_T, nlt_F, neq_T, neq_F, ↓reduceIte, Nat.add_zero, Nat.zero_add, Nat.mul_zero, Nat.reduceAdd, Nat.reduceMul, Nat.reduceSub, ob1_e, ob2_e, ob3_e, ob4_e, ob6_e]
  | succ j ih =>
    intro k n v hk h1
    obtain ⟨n, rfl⟩ : ∃ q, n = q + 1 := ⟨n - 1, by omega⟩
    rw [dmF, ← ih (k + 1) n _ (by omega) (by omega)]
    simp (disch := omega) only [f_X12_due_4, b_X12_due_4, neg_nI, lit_nI, nI_add, pk_mul, pk_sub, nI_clamp, inB_nI, gd_true, bnd_def, nI_leI, nI_ltI, nI_eq, nI_mI, mI_nI, nle_T, nle_F, nlt_T, nlt_F, neq_T, neq_F, ↓reduceIte, Nat.add_zero, Nat.zero_add, Nat.mul_zero, Nat.reduceAdd, Nat.reduceMul, Nat.reduceSub, ob1_e, ob2_e, ob3_e, ob4_e, ob6_e]
theorem dmF_cong {c m : Nat → Int32} : ∀ (j k : Nat) (v : Int32), (∀ i, k ≤ i → i < k + j → m i = c i) → dmF m j k v = dmF c j k v
  | 0, _, _, _ => rfl
  | j + 1, k, v, h => by
    unfold dmF
    rw [h k (by omega) (by omega)]
    exact dmF_cong j (k + 1) _ (fun i h1 h2 => h i (by omega) (by omega))
theorem due_l {v : Int32} (hM : M ≤ 5) (hn : ∀ k, k < M → mm (2 * k + 1) = tn k) (hN : RN G M c m) : ∀ (j k n n' : Nat) (b : Int32), k + j = M → j < n → j < n' → ∃ r, f_X9_dueBits_32 (nI G) (nI M) th tn c n v b (nI k) = some r ∧ f_X12_due_33 (nI M) mm m n' v b (nI k) = some r := by
  intro j
  induction j with
  | zero =>
    intro k n n' b hk h1 h2
    obtain ⟨n, rfl⟩ : ∃ q, n = q + 1 := ⟨n - 1, by omega⟩
    obtain ⟨n', rfl⟩ : ∃ q, n' = q + 1 := ⟨n' - 1, by omega⟩
    exact ⟨b, by simp (disch := omega) only [f_X9_dueBits_32, b_X9_dueBits_32, neg_nI, lit_nI, nI_add, pk_mul, pk_sub, nI_clamp, inB_nI, gd_true, bnd_def, nI_leI, nI_ltI, nI_eq, nI_mI, mI_nI, nle_T, nle_F, nlt_T, nlt_F, neq_T, neq_F, ↓reduceIte, Nat.add_zero, Nat.zero_add, Nat.mul_zero, Nat.reduceAdd, Nat.reduceMul, Nat.reduceSub, ob1_e, ob2_e, ob3_e, ob4_e, ob6_e], by simp (disch := omega) only [f_X12_due_33, b_X12_due_33, neg_nI, lit_nI, nI_add, pk_mul, pk_sub, nI_clamp, inB_nI, gd_true, bnd_def, nI_leI, nI_ltI, nI_eq, nI_mI, mI_nI, nle_T, nle_F, nlt_T, nlt_F, neq_T, neq_F, ↓reduceIte, Nat.add_zero, Nat.zero_add, Nat.mul_zero, Nat.reduceAdd, Nat.reduceMul, Nat.reduceSub, ob1_e, ob2_e, ob3_e, ob4_e, ob6_e]⟩
  | succ j ih =>
    intro k n n' b hk h1 h2
    obtain ⟨n, rfl⟩ : ∃ q, n = q + 1 := ⟨n - 1, by omega⟩
    obtain ⟨n', rfl⟩ : ∃ q, n' = q + 1 := ⟨n' - 1, by omega⟩
    have f1 : m (60 + k) = c (60 + k) := hN _ (by omega)
    have f2 := hn k (by omega)
    by_cases hs : c (60 + k) = mI 1
    · by_cases hv : v < tn k
      · obtain ⟨r, e1, e2⟩ := ih (k + 1) n n' b (by omega) (by omega) (by omega)
        refine ⟨r, ?_, ?_⟩
        · rw [← e1]
          simp (disch := omega) only [f_X9_dueBits_32, b_X9_dueBits_32, b_X9_dueBits_75, signers_c, hs, hv, neg_nI, lit_nI, nI_add, pk_mul, pk_sub, nI_clamp, inB_nI, gd_true, bnd_def, nI_leI, nI_ltI, nI_eq, nI_mI, mI_nI, nle_T, nle_F, nlt_T, nlt_F, neq_T, neq_F, ↓reduceIte, Nat.add_zero, Nat.zero_add, Nat.mul_zero, Nat.reduceAdd, Nat.reduceMul, Nat.reduceSub, ob1_e, ob2_e, ob3_e, ob4_e, ob6_e]
        · rw [← e2]
          simp (disch := omega) only [f_X12_due_33, b_X12_due_33, b_X12_due_75, b_X12_due_76, f1, f2, hs, hv, or0, neg_nI, lit_nI, nI_add, pk_mul, pk_sub, nI_clamp, inB_nI, gd_true, bnd_def, nI_leI, nI_ltI, nI_eq, nI_mI, mI_nI, nle_T, nle_F, nlt_T, nlt_F, neq_T, neq_F, ↓reduceIte, Nat.add_zero, Nat.zero_add, Nat.mul_zero, Nat.reduceAdd, Nat.reduceMul, Nat.reduceSub, ob1_e, ob2_e, ob3_e, ob4_e, ob6_e]
      · obtain ⟨r, e1, e2⟩ := ih (k + 1) n n' (b ||| ((1 : Int32) <<< (nI k &&& 31))) (by omega) (by omega) (by omega)
        refine ⟨r, ?_, ?_⟩
        · rw [← e1]
          simp (disch := omega) only [f_X9_dueBits_32, b_X9_dueBits_32, b_X9_dueBits_75, signers_c, hs, hv, neg_nI, lit_nI, nI_add, pk_mul, pk_sub, nI_clamp, inB_nI, gd_true, bnd_def, nI_leI, nI_ltI, nI_eq, nI_mI, mI_nI, nle_T, nle_F, nlt_T, nlt_F, neq_T, neq_F, ↓reduceIte, Nat.add_zero, Nat.zero_add, Nat.mul_zero, Nat.reduceAdd, Nat.reduceMul, Nat.reduceSub, ob1_e, ob2_e, ob3_e, ob4_e, ob6_e]
        · rw [← e2]
          simp (disch := omega) only [f_X12_due_33, b_X12_due_33, b_X12_due_75, b_X12_due_76, f1, f2, hs, hv, neg_nI, lit_nI, nI_add, pk_mul, pk_sub, nI_clamp, inB_nI, gd_true, bnd_def, nI_leI, nI_ltI, nI_eq, nI_mI, mI_nI, nle_T, nle_F, nlt_T, nlt_F, neq_T, neq_F, ↓reduceIte, Nat.add_zero, Nat.zero_add, Nat.mul_zero, Nat.reduceAdd, Nat.reduceMul, Nat.reduceSub, ob1_e, ob2_e, ob3_e, ob4_e, ob6_e]
    · obtain ⟨r, e1, e2⟩ := ih (k + 1) n n' b (by omega) (by omega) (by omega)
      refine ⟨r, ?_, ?_⟩
      · rw [← e1]
        simp (disch := omega) only [f_X9_dueBits_32, b_X9_dueBits_32, b_X9_dueBits_75, signers_c, hs, neg_nI, lit_nI, nI_add, pk_mul, pk_sub, nI_clamp, inB_nI, gd_true, bnd_def, nI_leI, nI_ltI, nI_eq, nI_mI, mI_nI, nle_T, nle_F, nlt_T, nlt_F, neq_T, neq_F, ↓reduceIte, Nat.add_zero, Nat.zero_add, Nat.mul_zero, Nat.reduceAdd, Nat.reduceMul, Nat.reduceSub, ob1_e, ob2_e, ob3_e, ob4_e, ob6_e]
      · rw [← e2]
        simp (disch := omega) only [f_X12_due_33, b_X12_due_33, b_X12_due_75, b_X12_due_76, f1, hs, or0, neg_nI, lit_nI, nI_add, pk_mul, pk_sub, nI_clamp, inB_nI, gd_true, bnd_def, nI_leI, nI_ltI, nI_eq, nI_mI, mI_nI, nle_T, nle_F, nlt_T, nlt_F, neq_T, neq_F, ↓reduceIte, Nat.add_zero, Nat.zero_add, Nat.mul_zero, Nat.reduceAdd, Nat.reduceMul, Nat.reduceSub, ob1_e, ob2_e, ob3_e, ob4_e, ob6_e]
theorem due_c (hG : G ≤ 6) (hM : M ≤ 5) (hh : ∀ g, g < G → mg (4 * g) = th g) (hn : ∀ k, k < M → mm (2 * k + 1) = tn k) (hex : ∃ a b, a < b ∧ b < G ∧ ¬ th a = th b) (hN : RN G M c m) (hI : IV G th c) : ∃ r, f_X9_dueBits (nI G) (nI M) th tn c = some r ∧ f_X12_due (nI M) mm m = some r := by
  obtain ⟨r, mo, e1, -, e3⟩ := pm_c (Or.inl rfl) hG hh hN hI
  rcases e3 with ⟨-, q⟩ | ⟨a, b, q1, q2, q3, q4, q5, q6⟩
  · obtain ⟨a, b, h1, h2, h3⟩ := hex
    exact absurd (q a b (by omega) h1 h2) h3
  · have hp := pl_lt (a := a) (b := b) ⟨by omega, by omega⟩
    obtain ⟨w, hw, ew, -⟩ := hI.1 (pl a b) hp
    obtain ⟨r2, d1, d2, d3, d4, d5⟩ := dmF_p (c := c) 36 0 0 (by omega) (fun i _ hi => by
      obtain ⟨u, hu, eu, -⟩ := hI.1 i (by omega)
      exact ⟨u, hu, eu⟩)
    have key : r2 = w := by
      have l1 := d4 (pl a b) w (by omega) (by omega) hw ew
      have l2 : r2 ≤ w := by
        rcases d5 with z | ⟨i, -, hi, ei⟩
        · omega
        · obtain ⟨u, hu, eu, hz⟩ := hI.1 i (by omega)
          rw [ei] at eu
          have e9 := nI_inj (by omega) (by omega) eu
          rcases hz with z | ⟨x, y, z1, z2, z3, z4⟩
          · omega
          · have z5 := q6 x y (by omega) z1 z2 z3
            rw [← z4, ei, ew, le32, Int32.toInt_mul, Int32.toInt_mul, nI_toInt (by omega), nI_toInt (by omega), nI_toInt (by omega), Int.bmod_eq_of_le (by omega) (by omega), Int.bmod_eq_of_le (by omega) (by omega)] at z5
            omega
      omega
    obtain ⟨r3, f1, f2⟩ := due_l (G := G) (th := th) (v := nI w) hM hn hN M 0 fu fu (nI 0) (by omega) (by have := fu_le; omega) (by have := fu_le; omega)
    have ed : nI (10 * a + b) / nI 10 = nI a := by
      rw [pk_div (by omega) (by omega) (by omega), show (10 * a + b) / 10 = a by omega]
    have er : rem (nI (10 * a + b)) (nI 10) = nI b := by
      rw [show rem (nI (10 * a + b)) (nI 10) = nI ((10 * a + b) % 10) from pk_rem (by omega) (by omega) (by omega), show (10 * a + b) % 10 = b by omega]
    refine ⟨r3, ?_, ?_⟩
    · rw [q4] at e1
      rw [← f1]
      simp (disch := omega) only [f_X9_dueBits, b_X9_dueBits_0, b_X9_dueBits_26, f_X9_warmestPair, b_X9_warmestPair_0, e1, ed, er, warmthOf_c, ew, neg_nI, lit_nI, nI_add, pk_mul, pk_sub, nI_clamp, inB_nI, gd_true, bnd_def, nI_leI, nI_ltI, nI_eq, nI_mI, mI_nI, nle_T, nle_F, nlt_T, nlt_F, neq_T, neq_F, ↓reduceIte, Nat.add_zero, Nat.zero_add, Nat.mul_zero, Nat.reduceAdd, Nat.reduceMul, Nat.reduceSub, ob1_e, ob2_e, ob3_e, ob4_e, ob6_e]
    · rw [← f2, ← key, ← d2, ← dmF_cong (m := m) 36 0 _ (fun i _ hi => hN i (by omega)), ← dueY_l (M := M) (mm := mm) (m := m) 36 0 fu (nI 0) (by omega) (by have := fu_le; omega)]
      simp (disch := omega) only [f_X12_due, b_X12_due_0, neg_nI, lit_nI, nI_add, pk_mul, pk_sub, nI_clamp, inB_nI, gd_true, bnd_def, nI_leI, nI_ltI, nI_eq, nI_mI, mI_nI, nle_T, nle_F, nlt_T, nlt_F, neq_T, neq_F, ↓reduceIte, Nat.add_zero, Nat.zero_add, Nat.mul_zero, Nat.reduceAdd, Nat.reduceMul, Nat.reduceSub, ob1_e, ob2_e, ob3_e, ob4_e, ob6_e]
theorem s_most (hG : G ≤ 6) (hM : M ≤ 5) (hh : ∀ g, g < G → mg (4 * g) = th g) (hw : ∀ k, k < M → mm (2 * k) = tw k) (hwb : ∀ k, k < M → ∃ w, w ≤ 9 ∧ tw k = nI w) (hn : ∀ k, k < M → mm (2 * k + 1) = tn k) (hex : 0 < G → ∃ a b, a < b ∧ b < G ∧ ¬ th a = th b) (hN : RN G M c m) (hI : IV G th c) (v : Int32) : ∃ r, f_X11_most (nI G) (nI M) th tw tn c v = some r ∧ f_X12_most (nI G) (nI M) mg mm m v = some r := by
  by_cases g0 : G = 0
  · refine ⟨mI 1, ?_, ?_⟩
    · unfold f_X11_most b_X11_most_0
      rw [noPeace_y g0, ob1_e, if_neg (by decide)]
      rfl
    · simp (disch := omega) only [f_X12_most, b_X12_most_0, neg_nI, lit_nI, nI_add, pk_mul, pk_sub, nI_clamp, inB_nI, gd_true, bnd_def, nI_leI, nI_ltI, nI_eq, nI_mI, mI_nI, nle_T, nle_F, nlt_T, nlt_F, neq_T, neq_F, ↓reduceIte, Nat.add_zero, Nat.zero_add, Nat.mul_zero, Nat.reduceAdd, Nat.reduceMul, Nat.reduceSub, ob1_e, ob2_e, ob3_e, ob4_e, ob6_e]
  · rcases rng v 8 (by omega) with ⟨k, hk, rfl⟩ | k0 | ⟨k0, k1, k2⟩
    · rcases (show k = 0 ∨ k = 1 ∨ k = 2 ∨ k = 3 ∨ k = 4 ∨ k = 5 ∨ k = 6 ∨ k = 7 ∨ k = 8 by omega) with rfl | rfl | rfl | rfl | rfl | rfl | rfl | rfl | rfl
      · exact ⟨bbF (pMet c) G 0 (nI 0), by simp (disch := omega) only [f_X11_most, b_X11_most_0, noPeace_n, metBits_c hG, neg_nI, lit_nI, nI_add, pk_mul, pk_sub, nI_clamp, inB_nI, gd_true, bnd_def, nI_leI, nI_ltI, nI_eq, nI_mI, mI_nI, nle_T, nle_F, nlt_T, nlt_F, neq_T, neq_F, ↓reduceIte, Nat.add_zero, Nat.zero_add, Nat.mul_zero, Nat.reduceAdd, Nat.reduceMul, Nat.reduceSub, ob1_e, ob2_e, ob3_e, ob4_e, ob6_e], by simp (disch := omega) only [f_X12_most, b_X12_most_0, metSet_c hG hN, neg_nI, lit_nI, nI_add, pk_mul, pk_sub, nI_clamp, inB_nI, gd_true, bnd_def, nI_leI, nI_ltI, nI_eq, nI_mI, mI_nI, nle_T, nle_F, nlt_T, nlt_F, neq_T, neq_F, ↓reduceIte, Nat.add_zero, Nat.zero_add, Nat.mul_zero, Nat.reduceAdd, Nat.reduceMul, Nat.reduceSub, ob1_e, ob2_e, ob3_e, ob4_e, ob6_e]⟩
      · obtain ⟨r, e1, e2⟩ := signed_c hM hN
        exact ⟨r, by simp (disch := omega) only [f_X11_most, b_X11_most_0, noPeace_n, e1, neg_nI, lit_nI, nI_add, pk_mul, pk_sub, nI_clamp, inB_nI, gd_true, bnd_def, nI_leI, nI_ltI, nI_eq, nI_mI, mI_nI, nle_T, nle_F, nlt_T, nlt_F, neq_T, neq_F, ↓reduceIte, Nat.add_zero, Nat.zero_add, Nat.mul_zero, Nat.reduceAdd, Nat.reduceMul, Nat.reduceSub, ob1_e, ob2_e, ob3_e, ob4_e, ob6_e], by simp (disch := omega) only [f_X12_most, b_X12_most_0, e2, neg_nI, lit_nI, nI_add, pk_mul, pk_sub, nI_clamp, inB_nI, gd_true, bnd_def, nI_leI, nI_ltI, nI_eq, nI_mI, mI_nI, nle_T, nle_F, nlt_T, nlt_F, neq_T, neq_F, ↓reduceIte, Nat.add_zero, Nat.zero_add, Nat.mul_zero, Nat.reduceAdd, Nat.reduceMul, Nat.reduceSub, ob1_e, ob2_e, ob3_e, ob4_e, ob6_e]⟩
      · obtain ⟨r, -, e1, e2, -⟩ := pm_c (Or.inl rfl) hG hh hN hI
        exact ⟨r, by simp (disch := omega) only [f_X11_most, b_X11_most_0, f_X9_warmestPair, b_X9_warmestPair_0, noPeace_n, e1, neg_nI, lit_nI, nI_add, pk_mul, pk_sub, nI_clamp, inB_nI, gd_true, bnd_def, nI_leI, nI_ltI, nI_eq, nI_mI, mI_nI, nle_T, nle_F, nlt_T, nlt_F, neq_T, neq_F, ↓reduceIte, Nat.add_zero, Nat.zero_add, Nat.mul_zero, Nat.reduceAdd, Nat.reduceMul, Nat.reduceSub, ob1_e, ob2_e, ob3_e, ob4_e, ob6_e], by simp (disch := omega) only [f_X12_most, b_X12_most_0, e2, neg_nI, lit_nI, nI_add, pk_mul, pk_sub, nI_clamp, inB_nI, gd_true, bnd_def, nI_leI, nI_ltI, nI_eq, nI_mI, mI_nI, nle_T, nle_F, nlt_T, nlt_F, neq_T, neq_F, ↓reduceIte, Nat.add_zero, Nat.zero_add, Nat.mul_zero, Nat.reduceAdd, Nat.reduceMul, Nat.reduceSub, ob1_e, ob2_e, ob3_e, ob4_e, ob6_e]⟩
      · obtain ⟨r, -, e1, e2, -⟩ := pm_c (Or.inr rfl) hG hh hN hI
        exact ⟨r, by simp (disch := omega) only [f_X11_most, b_X11_most_0, f_X9_coldestPair, b_X9_coldestPair_0, noPeace_n, e1, neg_nI, lit_nI, nI_add, pk_mul, pk_sub, nI_clamp, inB_nI, gd_true, bnd_def, nI_leI, nI_ltI, nI_eq, nI_mI, mI_nI, nle_T, nle_F, nlt_T, nlt_F, neq_T, neq_F, ↓reduceIte, Nat.add_zero, Nat.zero_add, Nat.mul_zero, Nat.reduceAdd, Nat.reduceMul, Nat.reduceSub, ob1_e, ob2_e, ob3_e, ob4_e, ob6_e], by simp (disch := omega) only [f_X12_most, b_X12_most_0, e2, neg_nI, lit_nI, nI_add, pk_mul, pk_sub, nI_clamp, inB_nI, gd_true, bnd_def, nI_leI, nI_ltI, nI_eq, nI_mI, mI_nI, nle_T, nle_F, nlt_T, nlt_F, neq_T, neq_F, ↓reduceIte, Nat.add_zero, Nat.zero_add, Nat.mul_zero, Nat.reduceAdd, Nat.reduceMul, Nat.reduceSub, ob1_e, ob2_e, ob3_e, ob4_e, ob6_e]⟩
      · obtain ⟨r, e1, e2⟩ := gmost_c (row := 36) hG (by omega) (Or.inl rfl) hN
        exact ⟨r, by simp (disch := omega) only [f_X11_most, b_X11_most_0, f_X9_freest, b_X9_freest_0, noPeace_n, e1, neg_nI, lit_nI, nI_add, pk_mul, pk_sub, nI_clamp, inB_nI, gd_true, bnd_def, nI_leI, nI_ltI, nI_eq, nI_mI, mI_nI, nle_T, nle_F, nlt_T, nlt_F, neq_T, neq_F, ↓reduceIte, Nat.add_zero, Nat.zero_add, Nat.mul_zero, Nat.reduceAdd, Nat.reduceMul, Nat.reduceSub, ob1_e, ob2_e, ob3_e, ob4_e, ob6_e], by simp (disch := omega) only [f_X12_most, b_X12_most_0, e2, neg_nI, lit_nI, nI_add, pk_mul, pk_sub, nI_clamp, inB_nI, gd_true, bnd_def, nI_leI, nI_ltI, nI_eq, nI_mI, mI_nI, nle_T, nle_F, nlt_T, nlt_F, neq_T, neq_F, ↓reduceIte, Nat.add_zero, Nat.zero_add, Nat.mul_zero, Nat.reduceAdd, Nat.reduceMul, Nat.reduceSub, ob1_e, ob2_e, ob3_e, ob4_e, ob6_e]⟩
      · obtain ⟨r, e1, e2⟩ := gmost_c (row := 42) hG (by omega) (Or.inr rfl) hN
        exact ⟨r, by simp (disch := omega) only [f_X11_most, b_X11_most_0, f_X9_stiffest, b_X9_stiffest_0, noPeace_n, e1, neg_nI, lit_nI, nI_add, pk_mul, pk_sub, nI_clamp, inB_nI, gd_true, bnd_def, nI_leI, nI_ltI, nI_eq, nI_mI, mI_nI, nle_T, nle_F, nlt_T, nlt_F, neq_T, neq_F, ↓reduceIte, Nat.add_zero, Nat.zero_add, Nat.mul_zero, Nat.reduceAdd, Nat.reduceMul, Nat.reduceSub, ob1_e, ob2_e, ob3_e, ob4_e, ob6_e], by simp (disch := omega) only [f_X12_most, b_X12_most_0, e2, neg_nI, lit_nI, nI_add, pk_mul, pk_sub, nI_clamp, inB_nI, gd_true, bnd_def, nI_leI, nI_ltI, nI_eq, nI_mI, mI_nI, nle_T, nle_F, nlt_T, nlt_F, neq_T, neq_F, ↓reduceIte, Nat.add_zero, Nat.zero_add, Nat.mul_zero, Nat.reduceAdd, Nat.reduceMul, Nat.reduceSub, ob1_e, ob2_e, ob3_e, ob4_e, ob6_e]⟩
      · obtain ⟨r, e1, e2⟩ := heaviest_c hM hw hwb
        exact ⟨r, by simp (disch := omega) only [f_X11_most, b_X11_most_0, noPeace_n, e1, neg_nI, lit_nI, nI_add, pk_mul, pk_sub, nI_clamp, inB_nI, gd_true, bnd_def, nI_leI, nI_ltI, nI_eq, nI_mI, mI_nI, nle_T, nle_F, nlt_T, nlt_F, neq_T, neq_F, ↓reduceIte, Nat.add_zero, Nat.zero_add, Nat.mul_zero, Nat.reduceAdd, Nat.reduceMul, Nat.reduceSub, ob1_e, ob2_e, ob3_e, ob4_e, ob6_e], by simp (disch := omega) only [f_X12_most, b_X12_most_0, e2, neg_nI, lit_nI, nI_add, pk_mul, pk_sub, nI_clamp, inB_nI, gd_true, bnd_def, nI_leI, nI_ltI, nI_eq, nI_mI, mI_nI, nle_T, nle_F, nlt_T, nlt_F, neq_T, neq_F, ↓reduceIte, Nat.add_zero, Nat.zero_add, Nat.mul_zero, Nat.reduceAdd, Nat.reduceMul, Nat.reduceSub, ob1_e, ob2_e, ob3_e, ob4_e, ob6_e]⟩
      · obtain ⟨r, e1, e2⟩ := bound_c hM hw hN
        exact ⟨r, by simp (disch := omega) only [f_X11_most, b_X11_most_0, noPeace_n, e1, neg_nI, lit_nI, nI_add, pk_mul, pk_sub, nI_clamp, inB_nI, gd_true, bnd_def, nI_leI, nI_ltI, nI_eq, nI_mI, mI_nI, nle_T, nle_F, nlt_T, nlt_F, neq_T, neq_F, ↓reduceIte, Nat.add_zero, Nat.zero_add, Nat.mul_zero, Nat.reduceAdd, Nat.reduceMul, Nat.reduceSub, ob1_e, ob2_e, ob3_e, ob4_e, ob6_e], by simp (disch := omega) only [f_X12_most, b_X12_most_0, e2, neg_nI, lit_nI, nI_add, pk_mul, pk_sub, nI_clamp, inB_nI, gd_true, bnd_def, nI_leI, nI_ltI, nI_eq, nI_mI, mI_nI, nle_T, nle_F, nlt_T, nlt_F, neq_T, neq_F, ↓reduceIte, Nat.add_zero, Nat.zero_add, Nat.mul_zero, Nat.reduceAdd, Nat.reduceMul, Nat.reduceSub, ob1_e, ob2_e, ob3_e, ob4_e, ob6_e]⟩
      · obtain ⟨r, e1, e2⟩ := due_c hG hM hh hn (hex (by omega)) hN hI
        exact ⟨r, by simp (disch := omega) only [f_X11_most, b_X11_most_0, noPeace_n, e1, neg_nI, lit_nI, nI_add, pk_mul, pk_sub, nI_clamp, inB_nI, gd_true, bnd_def, nI_leI, nI_ltI, nI_eq, nI_mI, mI_nI, nle_T, nle_F, nlt_T, nlt_F, neq_T, neq_F, ↓reduceIte, Nat.add_zero, Nat.zero_add, Nat.mul_zero, Nat.reduceAdd, Nat.reduceMul, Nat.reduceSub, ob1_e, ob2_e, ob3_e, ob4_e, ob6_e], by simp (disch := omega) only [f_X12_most, b_X12_most_0, e2, neg_nI, lit_nI, nI_add, pk_mul, pk_sub, nI_clamp, inB_nI, gd_true, bnd_def, nI_leI, nI_ltI, nI_eq, nI_mI, mI_nI, nle_T, nle_F, nlt_T, nlt_F, neq_T, neq_F, ↓reduceIte, Nat.add_zero, Nat.zero_add, Nat.mul_zero, Nat.reduceAdd, Nat.reduceMul, Nat.reduceSub, ob1_e, ob2_e, ob3_e, ob4_e, ob6_e]⟩
    · have ne : ∀ i : Nat, i ≤ 8 → ¬ v = nI i := by
        intro i hi e
        rw [e, lt32, nI_toInt (by omega)] at k0
        have : (nI 0).toInt = 0 := by decide
        omega
      refine ⟨mI 1, ?_, ?_⟩
      · simp (disch := omega) only [f_X11_most, b_X11_most_0, noPeace_n, k0, neg_nI, lit_nI, nI_add, pk_mul, pk_sub, nI_clamp, inB_nI, gd_true, bnd_def, nI_leI, nI_ltI, nI_eq, nI_mI, mI_nI, nle_T, nle_F, nlt_T, nlt_F, neq_T, neq_F, ↓reduceIte, Nat.add_zero, Nat.zero_add, Nat.mul_zero, Nat.reduceAdd, Nat.reduceMul, Nat.reduceSub, ob1_e, ob2_e, ob3_e, ob4_e, ob6_e]
      · simp (disch := omega) only [f_X12_most, b_X12_most_0, ne, neg_nI, lit_nI, nI_add, pk_mul, pk_sub, nI_clamp, inB_nI, gd_true, bnd_def, nI_leI, nI_ltI, nI_eq, nI_mI, mI_nI, nle_T, nle_F, nlt_T, nlt_F, neq_T, neq_F, ↓reduceIte, Nat.add_zero, Nat.zero_add, Nat.mul_zero, Nat.reduceAdd, Nat.reduceMul, Nat.reduceSub, ob1_e, ob2_e, ob3_e, ob4_e, ob6_e]
    · have ne : ∀ i : Nat, i ≤ 8 → ¬ v = nI i := by
        intro i hi e
        rw [e, lt32, nI_toInt (by omega), nI_toInt (by omega)] at k1
        omega
      refine ⟨mI 1, ?_, ?_⟩
      · simp (disch := omega) only [f_X11_most, b_X11_most_0, noPeace_n, k0, k2, neg_nI, lit_nI, nI_add, pk_mul, pk_sub, nI_clamp, inB_nI, gd_true, bnd_def, nI_leI, nI_ltI, nI_eq, nI_mI, mI_nI, nle_T, nle_F, nlt_T, nlt_F, neq_T, neq_F, ↓reduceIte, Nat.add_zero, Nat.zero_add, Nat.mul_zero, Nat.reduceAdd, Nat.reduceMul, Nat.reduceSub, ob1_e, ob2_e, ob3_e, ob4_e, ob6_e]
      · simp (disch := omega) only [f_X12_most, b_X12_most_0, ne, neg_nI, lit_nI, nI_add, pk_mul, pk_sub, nI_clamp, inB_nI, gd_true, bnd_def, nI_leI, nI_ltI, nI_eq, nI_mI, mI_nI, nle_T, nle_F, nlt_T, nlt_F, neq_T, neq_F, ↓reduceIte, Nat.add_zero, Nat.zero_add, Nat.mul_zero, Nat.reduceAdd, Nat.reduceMul, Nat.reduceSub, ob1_e, ob2_e, ob3_e, ob4_e, ob6_e]
end PM
