/-! pairs; allKnow answers -/
def vm (k : Nat) : Int32 := if k = 0 then mI 1 else nI (k - 1)
theorem vm_0 : vm 0 = mI 1 := (rfl)
theorem vm_s (k : Nat) : vm (k + 1) = nI k := (rfl)
theorem vm_m {k : Nat} (h : k ≤ 6) : nI k + mI 1 = vm k := by
  cases k with
  | zero => decide
  | succ k => exact pk_m1 k
theorem vm_1 {k : Nat} (h : k ≤ 6) : nI k - nI 1 = vm k := by
  cases k with
  | zero => decide
  | succ k => rw [pk_sub (by omega)]; rfl
theorem m1_lt : (mI 1 < nI 0) = True := eq_true (by decide)
theorem RN.refl (G M : Nat) (c : Nat → Int32) : RN G M c c := fun _ _ => rfl
section KN
variable {R : R6} {lh : Int32} {ll l0 l1 l2 l3 : Nat → Int32} {mh : Int32} {mc mv mk mt ms mu : Nat → Int32}
variable {G M : Nat} {th ta tn mg mm c m : Nat → Int32}
theorem lay_c (hX : RiseX R lh ll l0 l1 l2 l3) (hY : RiseY R mh mc mv mk mt ms mu) (hG : G ≤ 6) (hh : ∀ g, g < G → mg (4 * g) = th g) (ha : ∀ g, g < G → mg (4 * g + 3) = ta g) (h01 : ∀ g, g < G → th g = nI 0 ∨ th g = nI 1) (hN : RN G M c m) (lt st lt2 st2 un ri : Nat → Int32) (sz bs br fd mr ms0 mf : Int32) : ∃ lt' st' bs' b' un' ri' lt2' st2', f_X4_solve (nI G) th ta lh ll l0 l1 l2 l3 c lt st sz bs br fd un ri = some (lt', st', nI (cnt (thE th c) (nI 0) G), bs', nI b', nI 1, un', ri') ∧ f_X12_layPairs (nI G) mh mc mv mk mt ms mu mg m mr ms0 mf lt2 st2 = some (nI b', bs', nI 1, lt2', st2') ∧ DV G th (cnt (thE th c) (nI 0) G) b' ∧ b' < 1000000 := by
  obtain ⟨lt', st', un', ri', e1, e2⟩ := solve_out (th := th) (ta := ta) (c := c) hX hG (bs := bs) (br := br) (fd := fd) G 0 fu lt st un ri (by omega) (by have := fu_le; omega) (fun t ht => by omega)
  have hSle := cnt_le (thE th c) (nI 0) G
  have hp6 : 10 ^ (cnt (thE th c) (nI 0) G) ≤ 10 ^ 6 := Nat.pow_le_pow_right (by omega) (by omega)
  have hp7 : (10 : Nat) ^ 6 = 1000000 := by decide
  obtain ⟨bs', b', lt2', st2', x1, x2, x3, x4⟩ := srch hY hG hh ha h01 hN e2 G 0 60 60 (cnt (thE th c) (nI 0) G) 0 (10 ^ (cnt (thE th c) (nI 0) G)) 0 (bbF (pMet c) G 0 (nI 0)) (nI 0) (nI 0) bs br (nI 0) mr ms0 (nI 0) lt2 st2 (by omega) (by omega) (by omega) (by show 0 + _ = _; omega) rfl (by omega) (by omega) (by show True; trivial) (by
    intro o ho
    rw [b_bbF (by omega) G 0 _ (by omega), b_z o (by omega), decide_eq_true (by omega)]
    simp) (Or.inl ⟨rfl, rfl⟩)
  have x1' : f_X4_search 60 (nI G) th (nI (cnt (thE th c) (nI 0) G)) un' ri' bs br (nI 0) (nI 0) (bbF (pMet c) G 0 (nI 0)) (nI 0) (nI 0) = some (bs', nI b', nI 1) := x1
  have e1' : f_X4_solve (nI G) th ta lh ll l0 l1 l2 l3 c lt st sz bs br fd un ri = ob3 (f_X4_search 60 (nI G) th (nI (cnt (thE th c) (nI 0) G)) un' ri' bs br (nI 0) (nI 0) (bbF (pMet c) G 0 (nI 0)) (nI 0) (nI 0)) (fun x y z => some (lt', st', nI (cnt (thE th c) (nI 0) G), x, y, z, un', ri')) := e1
  refine ⟨lt', st', bs', b', un', ri', lt2', st2', ?_, ?_, x4, by omega⟩
  · rw [e1', x1', ob3_e]
  · unfold f_X12_layPairs b_X12_layPairs_0
    have x2' : f_X12_tryPairs 60 (nI G) mh mc mv mk mt ms mu mg m mr ms0 (0 : Int32) lt2 st2 (0 : Int32) (0 : Int32) (0 : Int32) (0 : Int32) = some (nI b', bs', nI 1, lt2', st2') := x2
    rw [x2', ob5_e]
theorem fof_l (hG : G ≤ 6) (hh : ∀ g, g < G → mg (4 * g) = th g) (hN : RN G M c m) : ∀ (j k n : Nat), k + j = G → j < n → f_X12_freeOfFirst_4 (nI G) mg m n (nI (cnt (thE th c) (nI 0) k)) (nI k) = some (nI (cnt (thE th c) (nI 0) G)) := by
  intro j
  induction j with
  | zero =>
    intro k n hk h1
    obtain ⟨n, rfl⟩ : ∃ q, n = q + 1 := ⟨n - 1, by omega⟩
    have : k = G := by omega
    subst this
    simp (disch := omega) only [f_X12_freeOfFirst_4, b_X12_freeOfFirst_4, neg_nI, lit_nI, nI_add, pk_mul, pk_sub, nI_clamp, inB_nI, gd_true, bnd_def, nI_leI, nI_ltI, nI_eq, nI_mI, mI_nI, nle_T, nle_F, nlt_T, nlt_F, neq_T, neq_F, ↓reduceIte, Nat.add_zero, Nat.zero_add, Nat.mul_zero, Nat.reduceAdd, Nat.reduceMul, Nat.reduceSub, ob1_e, ob2_e, ob3_e, ob4_e, ob6_e]
  | succ j ih =>
    intro k n hk h1
    obtain ⟨n, rfl⟩ : ∃ q, n = q + 1 := ⟨n - 1, by omega⟩
    have g1 := hh k (by omega)
    have f1 : m (54 + k) = c (54 + k) := hN _ (by omega)
    have i1 := ih (k + 1) n (by omega) (by omega)
    by_cases e0 : th k = nI 0
    · by_cases f0 : c (54 + k) = mI 1
      · rw [cnt_y (thE_y e0 f0)] at i1
        simp (disch := omega) only [f_X12_freeOfFirst_4, f_X12_freeOfFirst, b_X12_freeOfFirst_35, b_X12_freeOfFirst_34, b_X12_freeOfFirst_4, b_X12_freeOfFirst_0, of_c, g1, e0, isFree_c, f1, f0, i1, neg_nI, lit_nI, nI_add, pk_mul, pk_sub, nI_clamp, inB_nI, gd_true, bnd_def, nI_leI, nI_ltI, nI_eq, nI_mI, mI_nI, nle_T, nle_F, nlt_T, nlt_F, neq_T, neq_F, ↓reduceIte, Nat.add_zero, Nat.zero_add, Nat.mul_zero, Nat.reduceAdd, Nat.reduceMul, Nat.reduceSub, ob1_e, ob2_e, ob3_e, ob4_e, ob6_e]
      · rw [cnt_n (thE_n (fun z => f0 z.2))] at i1
        simp (disch := omega) only [f_X12_freeOfFirst_4, f_X12_freeOfFirst, b_X12_freeOfFirst_35, b_X12_freeOfFirst_34, b_X12_freeOfFirst_4, b_X12_freeOfFirst_0, of_c, g1, e0, isFree_c, f1, f0, i1, add0, neg_nI, lit_nI, nI_add, pk_mul, pk_sub, nI_clamp, inB_nI, gd_true, bnd_def, nI_leI, nI_ltI, nI_eq, nI_mI, mI_nI, nle_T, nle_F, nlt_T, nlt_F, neq_T, neq_F, ↓reduceIte, Nat.add_zero, Nat.zero_add, Nat.mul_zero, Nat.reduceAdd, Nat.reduceMul, Nat.reduceSub, ob1_e, ob2_e, ob3_e, ob4_e, ob6_e]
    · rw [cnt_n (thE_n (fun z => e0 z.1))] at i1
      simp (disch := omega) only [f_X12_freeOfFirst_4, f_X12_freeOfFirst, b_X12_freeOfFirst_35, b_X12_freeOfFirst_34, b_X12_freeOfFirst_4, b_X12_freeOfFirst_0, of_c, g1, e0, i1, add0, neg_nI, lit_nI, nI_add, pk_mul, pk_sub, nI_clamp, inB_nI, gd_true, bnd_def, nI_leI, nI_ltI, nI_eq, nI_mI, mI_nI, nle_T, nle_F, nlt_T, nlt_F, neq_T, neq_F, ↓reduceIte, Nat.add_zero, Nat.zero_add, Nat.mul_zero, Nat.reduceAdd, Nat.reduceMul, Nat.reduceSub, ob1_e, ob2_e, ob3_e, ob4_e, ob6_e]
theorem s_pairs (hX : RiseX R lh ll l0 l1 l2 l3) (hY : RiseY R mh mc mv mk mt ms mu) (hG : G ≤ 6) (hh : ∀ g, g < G → mg (4 * g) = th g) (ha : ∀ g, g < G → mg (4 * g + 3) = ta g) (h01 : ∀ g, g < G → th g = nI 0 ∨ th g = nI 1) (hN : RN G M c m) (lt st lt2 st2 un ri : Nat → Int32) (sz bs br fd mr ms0 mf v : Int32) (hz : isZ fd = true) (hz2 : isZ mf = true) : ∃ r lt' st' sz' bs' br' fd' un' ri' mr' ms0' mf' lt2' st2', f_X11_pairs (nI G) th ta lh ll l0 l1 l2 l3 c lt st sz bs br fd un ri v = some (r, lt', st', sz', bs', br', fd', un', ri') ∧ f_X12_pairs (nI G) mh mc mv mk mt ms mu mg m mr ms0 mf lt2 st2 v = some (r, mr', ms0', mf', lt2', st2') ∧ isZ fd' = true ∧ isZ mf' = true := by
  by_cases g0 : G = 0
  · refine ⟨mI 1000000, lt, st, sz, bs, br, fd, un, ri, mr, ms0, mf, lt2, st2, ?_, ?_, hz, hz2⟩
    · simp (disch := omega) only [f_X11_pairs, b_X11_pairs_16, b_X11_pairs_0, noPeace_y g0, neg_nI, lit_nI, nI_add, pk_mul, pk_sub, nI_clamp, inB_nI, gd_true, bnd_def, nI_leI, nI_ltI, nI_eq, nI_mI, mI_nI, nle_T, nle_F, nlt_T, nlt_F, neq_T, neq_F, ↓reduceIte, Nat.add_zero, Nat.zero_add, Nat.mul_zero, Nat.reduceAdd, Nat.reduceMul, Nat.reduceSub, ob1_e, ob2_e, ob3_e, ob4_e, ob6_e]
    · simp (disch := omega) only [f_X12_pairs, b_X12_pairs_16, b_X12_pairs_0, neg_nI, lit_nI, nI_add, pk_mul, pk_sub, nI_clamp, inB_nI, gd_true, bnd_def, nI_leI, nI_ltI, nI_eq, nI_mI, mI_nI, nle_T, nle_F, nlt_T, nlt_F, neq_T, neq_F, ↓reduceIte, Nat.add_zero, Nat.zero_add, Nat.mul_zero, Nat.reduceAdd, Nat.reduceMul, Nat.reduceSub, ob1_e, ob2_e, ob3_e, ob4_e, ob6_e]
  · rcases rng v 1 (by omega) with ⟨k, hk, rfl⟩ | k0 | ⟨k0, k1, k2⟩
    · obtain ⟨lt', st', bs', b', un', ri', lt2', st2', e1, e2, -, hb6⟩ := lay_c hX hY hG hh ha h01 hN lt st lt2 st2 un ri sz bs br fd mr ms0 mf
      have hf : f_X12_freeOfFirst (nI G) mg m = some (nI (cnt (thE th c) (nI 0) G)) := fof_l hG hh hN G 0 fu (by omega) (by have := fu_le; omega)
      have hSle := cnt_le (thE th c) (nI 0) G
      rcases (show k = 0 ∨ k = 1 by omega) with rfl | rfl
      · by_cases s0 : cnt (thE th c) (nI 0) G = 0
        · refine ⟨mI 1, lt', st', nI (cnt (thE th c) (nI 0) G), bs', nI b', nI 1, un', ri', nI b', bs', nI 1, lt2', st2', ?_, ?_, rfl, rfl⟩
          · simp (disch := omega) only [f_X11_pairs, b_X11_pairs_16, b_X11_pairs_0, noPeace_n, e1, ob8_e, s0, neg_nI, lit_nI, nI_add, pk_mul, pk_sub, nI_clamp, inB_nI, gd_true, bnd_def, nI_leI, nI_ltI, nI_eq, nI_mI, mI_nI, nle_T, nle_F, nlt_T, nlt_F, neq_T, neq_F, ↓reduceIte, Nat.add_zero, Nat.zero_add, Nat.mul_zero, Nat.reduceAdd, Nat.reduceMul, Nat.reduceSub, ob1_e, ob2_e, ob3_e, ob4_e, ob6_e]
          · simp (disch := omega) only [f_X12_pairs, b_X12_pairs_16, b_X12_pairs_0, in_c, e2, ob5_e, hf, s0, neg_nI, lit_nI, nI_add, pk_mul, pk_sub, nI_clamp, inB_nI, gd_true, bnd_def, nI_leI, nI_ltI, nI_eq, nI_mI, mI_nI, nle_T, nle_F, nlt_T, nlt_F, neq_T, neq_F, ↓reduceIte, Nat.add_zero, Nat.zero_add, Nat.mul_zero, Nat.reduceAdd, Nat.reduceMul, Nat.reduceSub, ob1_e, ob2_e, ob3_e, ob4_e, ob6_e]
        · refine ⟨nI b', lt', st', nI (cnt (thE th c) (nI 0) G), bs', nI b', nI 1, un', ri', nI b', bs', nI 1, lt2', st2', ?_, ?_, rfl, rfl⟩
          · simp (disch := omega) only [f_X11_pairs, b_X11_pairs_16, b_X11_pairs_0, noPeace_n, e1, ob8_e, neg_nI, lit_nI, nI_add, pk_mul, pk_sub, nI_clamp, inB_nI, gd_true, bnd_def, nI_leI, nI_ltI, nI_eq, nI_mI, mI_nI, nle_T, nle_F, nlt_T, nlt_F, neq_T, neq_F, ↓reduceIte, Nat.add_zero, Nat.zero_add, Nat.mul_zero, Nat.reduceAdd, Nat.reduceMul, Nat.reduceSub, ob1_e, ob2_e, ob3_e, ob4_e, ob6_e]
          · simp (disch := omega) only [f_X12_pairs, b_X12_pairs_16, b_X12_pairs_0, in_c, e2, ob5_e, hf, neg_nI, lit_nI, nI_add, pk_mul, pk_sub, nI_clamp, inB_nI, gd_true, bnd_def, nI_leI, nI_ltI, nI_eq, nI_mI, mI_nI, nle_T, nle_F, nlt_T, nlt_F, neq_T, neq_F, ↓reduceIte, Nat.add_zero, Nat.zero_add, Nat.mul_zero, Nat.reduceAdd, Nat.reduceMul, Nat.reduceSub, ob1_e, ob2_e, ob3_e, ob4_e, ob6_e]
      · refine ⟨bs', lt', st', nI (cnt (thE th c) (nI 0) G), bs', nI b', nI 1, un', ri', nI b', bs', nI 1, lt2', st2', ?_, ?_, rfl, rfl⟩
        · simp (disch := omega) only [f_X11_pairs, b_X11_pairs_16, b_X11_pairs_0, noPeace_n, e1, ob8_e, neg_nI, lit_nI, nI_add, pk_mul, pk_sub, nI_clamp, inB_nI, gd_true, bnd_def, nI_leI, nI_ltI, nI_eq, nI_mI, mI_nI, nle_T, nle_F, nlt_T, nlt_F, neq_T, neq_F, ↓reduceIte, Nat.add_zero, Nat.zero_add, Nat.mul_zero, Nat.reduceAdd, Nat.reduceMul, Nat.reduceSub, ob1_e, ob2_e, ob3_e, ob4_e, ob6_e]
        · simp (disch := omega) only [f_X12_pairs, b_X12_pairs_16, b_X12_pairs_0, in_c, e2, ob5_e, neg_nI, lit_nI, nI_add, pk_mul, pk_sub, nI_clamp, inB_nI, gd_true, bnd_def, nI_leI, nI_ltI, nI_eq, nI_mI, mI_nI, nle_T, nle_F, nlt_T, nlt_F, neq_T, neq_F, ↓reduceIte, Nat.add_zero, Nat.zero_add, Nat.mul_zero, Nat.reduceAdd, Nat.reduceMul, Nat.reduceSub, ob1_e, ob2_e, ob3_e, ob4_e, ob6_e]
    · refine ⟨mI 1000000, lt, st, sz, bs, br, fd, un, ri, mr, ms0, mf, lt2, st2, ?_, ?_, hz, hz2⟩
      · simp (disch := omega) only [f_X11_pairs, b_X11_pairs_16, b_X11_pairs_0, noPeace_n, k0, neg_nI, lit_nI, nI_add, pk_mul, pk_sub, nI_clamp, inB_nI, gd_true, bnd_def, nI_leI, nI_ltI, nI_eq, nI_mI, mI_nI, nle_T, nle_F, nlt_T, nlt_F, neq_T, neq_F, ↓reduceIte, Nat.add_zero, Nat.zero_add, Nat.mul_zero, Nat.reduceAdd, Nat.reduceMul, Nat.reduceSub, ob1_e, ob2_e, ob3_e, ob4_e, ob6_e]
      · simp (disch := omega) only [f_X12_pairs, b_X12_pairs_16, b_X12_pairs_0, in_lo (hi := nI 1) k0, neg_nI, lit_nI, nI_add, pk_mul, pk_sub, nI_clamp, inB_nI, gd_true, bnd_def, nI_leI, nI_ltI, nI_eq, nI_mI, mI_nI, nle_T, nle_F, nlt_T, nlt_F, neq_T, neq_F, ↓reduceIte, Nat.add_zero, Nat.zero_add, Nat.mul_zero, Nat.reduceAdd, Nat.reduceMul, Nat.reduceSub, ob1_e, ob2_e, ob3_e, ob4_e, ob6_e]
    · refine ⟨mI 1000000, lt, st, sz, bs, br, fd, un, ri, mr, ms0, mf, lt2, st2, ?_, ?_, hz, hz2⟩
      · simp (disch := omega) only [f_X11_pairs, b_X11_pairs_16, b_X11_pairs_0, noPeace_n, k0, k2, neg_nI, lit_nI, nI_add, pk_mul, pk_sub, nI_clamp, inB_nI, gd_true, bnd_def, nI_leI, nI_ltI, nI_eq, nI_mI, mI_nI, nle_T, nle_F, nlt_T, nlt_F, neq_T, neq_F, ↓reduceIte, Nat.add_zero, Nat.zero_add, Nat.mul_zero, Nat.reduceAdd, Nat.reduceMul, Nat.reduceSub, ob1_e, ob2_e, ob3_e, ob4_e, ob6_e]
      · simp (disch := omega) only [f_X12_pairs, b_X12_pairs_16, b_X12_pairs_0, in_hi (lo := nI 0) k1, neg_nI, lit_nI, nI_add, pk_mul, pk_sub, nI_clamp, inB_nI, gd_true, bnd_def, nI_leI, nI_ltI, nI_eq, nI_mI, mI_nI, nle_T, nle_F, nlt_T, nlt_F, neq_T, neq_F, ↓reduceIte, Nat.add_zero, Nat.zero_add, Nat.mul_zero, Nat.reduceAdd, Nat.reduceMul, Nat.reduceSub, ob1_e, ob2_e, ob3_e, ob4_e, ob6_e]
/-! the class's allKnow -/
theorem allX_l (hG : G ≤ 6) : ∀ (j k n : Nat), k + j = G → j < n → ∃ b, f_X9_allKnown_2 (nI G) c n (nI k) = some (bz b) := by
  intro j
  induction j with
  | zero =>
    intro k n hk h1
    obtain ⟨n, rfl⟩ : ∃ q, n = q + 1 := ⟨n - 1, by omega⟩
    exact ⟨true, by simp (disch := omega) only [f_X9_allKnown_2, b_X9_allKnown_2, bz_t, neg_nI, lit_nI, nI_add, pk_mul, pk_sub, nI_clamp, inB_nI, gd_true, bnd_def, nI_leI, nI_ltI, nI_eq, nI_mI, mI_nI, nle_T, nle_F, nlt_T, nlt_F, neq_T, neq_F, ↓reduceIte, Nat.add_zero, Nat.zero_add, Nat.mul_zero, Nat.reduceAdd, Nat.reduceMul, Nat.reduceSub, ob1_e, ob2_e, ob3_e, ob4_e, ob6_e]⟩
  | succ j ih =>
    intro k n hk h1
    obtain ⟨n, rfl⟩ : ∃ q, n = q + 1 := ⟨n - 1, by omega⟩
    by_cases e : c (48 + k) = (nI 1 <<< (nI G &&& nI 31)) - nI 1
    · obtain ⟨b, e1⟩ := ih (k + 1) n (by omega) (by omega)
      exact ⟨b, by simp (disch := omega) only [f_X9_allKnown_2, b_X9_allKnown_2, knows_c, e, e1, neg_nI, lit_nI, nI_add, pk_mul, pk_sub, nI_clamp, inB_nI, gd_true, bnd_def, nI_leI, nI_ltI, nI_eq, nI_mI, mI_nI, nle_T, nle_F, nlt_T, nlt_F, neq_T, neq_F, ↓reduceIte, Nat.add_zero, Nat.zero_add, Nat.mul_zero, Nat.reduceAdd, Nat.reduceMul, Nat.reduceSub, ob1_e, ob2_e, ob3_e, ob4_e, ob6_e]⟩
    · exact ⟨false, by simp (disch := omega) only [f_X9_allKnown_2, b_X9_allKnown_2, knows_c, e, bz_f, neg_nI, lit_nI, nI_add, pk_mul, pk_sub, nI_clamp, inB_nI, gd_true, bnd_def, nI_leI, nI_ltI, nI_eq, nI_mI, mI_nI, nle_T, nle_F, nlt_T, nlt_F, neq_T, neq_F, ↓reduceIte, Nat.add_zero, Nat.zero_add, Nat.mul_zero, Nat.reduceAdd, Nat.reduceMul, Nat.reduceSub, ob1_e, ob2_e, ob3_e, ob4_e, ob6_e]⟩
theorem perf_l (hX : RiseX R lh ll l0 l1 l2 l3) (hY : RiseY R mh mc mv mk mt ms mu) (hG : G ≤ 6) (hM : M ≤ 5) (hh : ∀ g, g < G → mg (4 * g) = th g) (ha : ∀ g, g < G → mg (4 * g + 3) = ta g) (hn : ∀ k, k < M → mm (2 * k + 1) = tn k) {sz br : Int32} {un : Nat → Int32} : ∀ (k n : Nat) (lt st c : Nat → Int32) (row : Int32), k ≤ 6 → k < n → IV G th c → ∃ lt' st' c', f_X4_perform_12 (nI G) (nI M) th ta tn lh ll l0 l1 l2 l3 sz br un n lt st c row (vm k) = some (lt', st', c') ∧ IV G th c' ∧ c' 68 = c 68 := by
  intro k
  induction k with
  | zero =>
    intro n lt st c row hk h1 hI
    obtain ⟨n, rfl⟩ : ∃ q, n = q + 1 := ⟨n - 1, by omega⟩
    refine ⟨lt, st, c, ?_, hI, rfl⟩
    simp (disch := omega) only [f_X4_perform_12, b_X4_perform_12, vm_0, m1_lt, neg_nI, lit_nI, nI_add, pk_mul, pk_sub, nI_clamp, inB_nI, gd_true, bnd_def, nI_leI, nI_ltI, nI_eq, nI_mI, mI_nI, nle_T, nle_F, nlt_T, nlt_F, neq_T, neq_F, ↓reduceIte, Nat.add_zero, Nat.zero_add, Nat.mul_zero, Nat.reduceAdd, Nat.reduceMul, Nat.reduceSub, ob1_e, ob2_e, ob3_e, ob4_e, ob6_e]
  | succ k ih =>
    intro n lt st c row hk h1 hI
    obtain ⟨n, rfl⟩ : ∃ q, n = q + 1 := ⟨n - 1, by omega⟩
    rcases two_or (un k) (rem row (nI 10)) (th := th) (mg := mg) hG hh with ⟨g, o, hg, ho, eg, eo, ht⟩ | ⟨q1, -⟩
    · obtain ⟨lt1, st1, c1, lt2, st2, m1, x1, -, -, x4, x5, -⟩ := meet_l hX hY hG hM ha hn (RN.refl G M c) hI hg ho ht lt st lt st
      obtain ⟨lt', st', c', e1, e2, e3⟩ := ih n lt1 st1 c1 (row / nI 10) (by omega) (by omega) x4
      refine ⟨lt', st', c', ?_, e2, by rw [e3, x5 68 (by omega)]⟩
      rw [← e1]
      simp (disch := omega) only [f_X4_perform_12, b_X4_perform_12, b_X4_perform_50, vm_s, vm_m, eg, eo, unlike_c, ht, x1, neg_nI, lit_nI, nI_add, pk_mul, pk_sub, nI_clamp, inB_nI, gd_true, bnd_def, nI_leI, nI_ltI, nI_eq, nI_mI, mI_nI, nle_T, nle_F, nlt_T, nlt_F, neq_T, neq_F, ↓reduceIte, Nat.add_zero, Nat.zero_add, Nat.mul_zero, Nat.reduceAdd, Nat.reduceMul, Nat.reduceSub, ob1_e, ob2_e, ob3_e, ob4_e, ob6_e]
    · obtain ⟨lt', st', c', e1, e2, e3⟩ := ih n lt st c (row / nI 10) (by omega) (by omega) hI
      refine ⟨lt', st', c', ?_, e2, e3⟩
      rw [← e1]
      simp (disch := omega) only [f_X4_perform_12, b_X4_perform_12, b_X4_perform_50, vm_s, vm_m, q1, neg_nI, lit_nI, nI_add, pk_mul, pk_sub, nI_clamp, inB_nI, gd_true, bnd_def, nI_leI, nI_ltI, nI_eq, nI_mI, mI_nI, nle_T, nle_F, nlt_T, nlt_F, neq_T, neq_F, ↓reduceIte, Nat.add_zero, Nat.zero_add, Nat.mul_zero, Nat.reduceAdd, Nat.reduceMul, Nat.reduceSub, ob1_e, ob2_e, ob3_e, ob4_e, ob6_e]
theorem knowX_l (hX : RiseX R lh ll l0 l1 l2 l3) (hY : RiseY R mh mc mv mk mt ms mu) (hG : G ≤ 6) (hM : M ≤ 5) (hh : ∀ g, g < G → mg (4 * g) = th g) (ha : ∀ g, g < G → mg (4 * g + 3) = ta g) (hn : ∀ k, k < M → mm (2 * k + 1) = tn k) (h01 : ∀ g, g < G → th g = nI 0 ∨ th g = nI 1) {c0 : Nat → Int32} : ∀ (j k n : Nat) (lt st c un ri : Nat → Int32) (sz bs br fd : Int32), k + j = 31 → j < n → IV G th c → isZ fd = true → ∃ r lt' st' c' sz' bs' br' fd' un' ri', f_X11_allKnow_22 (nI G) (nI M) th ta tn lh ll l0 l1 l2 l3 c0 n lt st c sz bs br fd un ri (nI k) = some (r, lt', st', c', sz', bs', br', fd', un', ri') ∧ isZ fd' = true := by
  intro j
  induction j with
  | zero =>
    intro k n lt st c un ri sz bs br fd hk h1 hI hz
    obtain ⟨n, rfl⟩ : ∃ q, n = q + 1 := ⟨n - 1, by omega⟩
    refine ⟨mI 1, lt, st, c, sz, bs, br, fd, un, ri, ?_, hz⟩
    simp (disch := omega) only [f_X11_allKnow_22, b_X11_allKnow_22, neg_nI, lit_nI, nI_add, pk_mul, pk_sub, nI_clamp, inB_nI, gd_true, bnd_def, nI_leI, nI_ltI, nI_eq, nI_mI, mI_nI, nle_T, nle_F, nlt_T, nlt_F, neq_T, neq_F, ↓reduceIte, Nat.add_zero, Nat.zero_add, Nat.mul_zero, Nat.reduceAdd, Nat.reduceMul, Nat.reduceSub, ob1_e, ob2_e, ob3_e, ob4_e, ob6_e]
  | succ j ih =>
    intro k n lt st c un ri sz bs br fd hk h1 hI hz
    obtain ⟨n, rfl⟩ : ∃ q, n = q + 1 := ⟨n - 1, by omega⟩
    obtain ⟨b, hb⟩ := allX_l (c := c) hG G 0 fu (by omega) (by have := fu_le; omega)
    have hb' : f_X9_allKnown (nI G) c = some (bz b) := hb
    cases b with
    | true =>
      refine ⟨nI k, lt, st, c, sz, bs, br, fd, un, ri, ?_, hz⟩
      rw [bz_t] at hb'
      simp (disch := omega) only [f_X11_allKnow_22, b_X11_allKnow_22, hb', neg_nI, lit_nI, nI_add, pk_mul, pk_sub, nI_clamp, inB_nI, gd_true, bnd_def, nI_leI, nI_ltI, nI_eq, nI_mI, mI_nI, nle_T, nle_F, nlt_T, nlt_F, neq_T, neq_F, ↓reduceIte, Nat.add_zero, Nat.zero_add, Nat.mul_zero, Nat.reduceAdd, Nat.reduceMul, Nat.reduceSub, ob1_e, ob2_e, ob3_e, ob4_e, ob6_e]
    | false =>
      rw [bz_f] at hb'
      obtain ⟨lt1, st1, bs1, b1, un1, ri1, lt2, st2, e1, -, -, -⟩ := lay_c hX hY hG hh ha h01 (RN.refl G M c) lt st lt st un ri sz bs br fd (nI 0) (nI 0) (nI 0)
      have hSle := cnt_le (thE th c) (nI 0) G
      obtain ⟨lt3, st3, c3, p1, p2, p3⟩ := perf_l hX hY hG hM hh ha hn (sz := nI (cnt (thE th c) (nI 0) G)) (br := nI b1) (un := un1) (cnt (thE th c) (nI 0) G) fu lt1 st1 c (nI b1) (by omega) (by have := fu_le; omega) hI
      have p1' : f_X4_perform (nI G) (nI M) th ta tn lh ll l0 l1 l2 l3 (nI (cnt (thE th c) (nI 0) G)) (nI b1) un1 lt1 st1 c = some (lt3, st3, c3) := by
        rw [← p1]
        simp (disch := omega) only [f_X4_perform, b_X4_perform_0, bnd_def, lit_nI, vm_1]
      obtain ⟨d, hd9, ed⟩ := p2.2.2
      by_cases hd : d = 999
      · obtain ⟨r, lt', st', c', sz', bs', br', fd', un', ri', e2, e3⟩ := ih (k + 1) n lt3 st3 c3 un1 ri1 (nI (cnt (thE th c) (nI 0) G)) bs1 (nI b1) (nI 1) (by omega) (by omega) p2 rfl
        refine ⟨r, lt', st', c', sz', bs', br', fd', un', ri', ?_, e3⟩
        rw [← e2]
        simp (disch := omega) only [f_X11_allKnow_22, b_X11_allKnow_22, b_X11_allKnow_89, hb', e1, ob8_e, p1', day_c, ed, neg_nI, lit_nI, nI_add, pk_mul, pk_sub, nI_clamp, inB_nI, gd_true, bnd_def, nI_leI, nI_ltI, nI_eq, nI_mI, mI_nI, nle_T, nle_F, nlt_T, nlt_F, neq_T, neq_F, ↓reduceIte, Nat.add_zero, Nat.zero_add, Nat.mul_zero, Nat.reduceAdd, Nat.reduceMul, Nat.reduceSub, ob1_e, ob2_e, ob3_e, ob4_e, ob6_e]
      · obtain ⟨c4, c5, m5, r1, r2, -, -, r5, -, -, r8, r9, -⟩ := live_c hG hM hh (RN.refl G M c3) p2
        have hI5 : IV G th c5 := ⟨r5, fun g hg => by rw [r8 (36 + g) (by omega)]; exact p2.2.1 g hg, d + 1, by omega, by rw [r9, ed, nI_add]⟩
        obtain ⟨r, lt', st', c', sz', bs', br', fd', un', ri', e2, e3⟩ := ih (k + 1) n lt3 st3 c5 un1 ri1 (nI (cnt (thE th c) (nI 0) G)) bs1 (nI b1) (nI 1) (by omega) (by omega) hI5 rfl
        refine ⟨r, lt', st', c', sz', bs', br', fd', un', ri', ?_, e3⟩
        rw [← e2]
        simp (disch := omega) only [f_X11_allKnow_22, b_X11_allKnow_22, b_X11_allKnow_89, hb', e1, ob8_e, p1', day_c, ed, r1, r2, neg_nI, lit_nI, nI_add, pk_mul, pk_sub, nI_clamp, inB_nI, gd_true, bnd_def, nI_leI, nI_ltI, nI_eq, nI_mI, mI_nI, nle_T, nle_F, nlt_T, nlt_F, neq_T, neq_F, ↓reduceIte, Nat.add_zero, Nat.zero_add, Nat.mul_zero, Nat.reduceAdd, Nat.reduceMul, Nat.reduceSub, ob1_e, ob2_e, ob3_e, ob4_e, ob6_e]
theorem s_knowX (hX : RiseX R lh ll l0 l1 l2 l3) (hY : RiseY R mh mc mv mk mt ms mu) (hG : G ≤ 6) (hM : M ≤ 5) (hh : ∀ g, g < G → mg (4 * g) = th g) (ha : ∀ g, g < G → mg (4 * g + 3) = ta g) (hn : ∀ k, k < M → mm (2 * k + 1) = tn k) (h01 : ∀ g, g < G → th g = nI 0 ∨ th g = nI 1) (hI : IV G th c) (lt st ap un ri : Nat → Int32) (sz bs br fd : Int32) (hz : isZ fd = true) : ∃ r lt' st' c' sz' bs' br' fd' un' ri', f_X11_allKnow (nI G) (nI M) th ta tn lh ll l0 l1 l2 l3 c lt st ap sz bs br fd un ri = some (r, lt', st', c', sz', bs', br', fd', un', ri') ∧ isZ fd' = true := by
  by_cases g0 : G = 0
  · refine ⟨mI 1, lt, st, ap, sz, bs, br, fd, un, ri, ?_, hz⟩
    simp (disch := omega) only [f_X11_allKnow, b_X11_allKnow_0, noPeace_y g0, neg_nI, lit_nI, nI_add, pk_mul, pk_sub, nI_clamp, inB_nI, gd_true, bnd_def, nI_leI, nI_ltI, nI_eq, nI_mI, mI_nI, nle_T, nle_F, nlt_T, nlt_F, neq_T, neq_F, ↓reduceIte, Nat.add_zero, Nat.zero_add, Nat.mul_zero, Nat.reduceAdd, Nat.reduceMul, Nat.reduceSub, ob1_e, ob2_e, ob3_e, ob4_e, ob6_e]
  · have hI2 : IV G th (va_cpy c ap 0 0 69) := hI.cong hG fun i hi => cpy0 (by omega)
    obtain ⟨r, lt', st', c', sz', bs', br', fd', un', ri', e2, e3⟩ := knowX_l hX hY hG hM hh ha hn h01 (c0 := c) 31 0 fu lt st (va_cpy c ap 0 0 69) un ri sz bs br fd (by omega) (by have := fu_le; omega) hI2 hz
    refine ⟨r, lt', st', c', sz', bs', br', fd', un', ri', ?_, e3⟩
    rw [← e2]
    simp (disch := omega) only [f_X11_allKnow, b_X11_allKnow_0, noPeace_n, copyS_c, neg_nI, lit_nI, nI_add, pk_mul, pk_sub, nI_clamp, inB_nI, gd_true, bnd_def, nI_leI, nI_ltI, nI_eq, nI_mI, mI_nI, nle_T, nle_F, nlt_T, nlt_F, neq_T, neq_F, ↓reduceIte, Nat.add_zero, Nat.zero_add, Nat.mul_zero, Nat.reduceAdd, Nat.reduceMul, Nat.reduceSub, ob1_e, ob2_e, ob3_e, ob4_e, ob6_e]
end KN
