/-! shares, the most, allies -/
theorem or0 (v : Int32) : v ||| nI 0 = v := Int32.or_zero
theorem add0 (v : Int32) : v + nI 0 = v := Int32.add_zero v
theorem nzB_t {v : Int32} (h : ¬ v = nI 0) : nzB v = true := decide_eq_true h
def frF (th c : Nat → Int32) (h : Int32) : Nat → Nat → Int32 → Int32
  | 0, _, v => v
  | j + 1, k, v => frF th c h j (k + 1) (if th k = h then v + c (36 + k) else v)
def alF (c : Nat → Int32) : Nat → Nat → Int32 → Int32
  | 0, _, v => v
  | j + 1, k, v => alF c j (k + 1) (v + c (36 + k))
theorem frF_sum {th c : Nat → Int32} : ∀ (j k : Nat) (a b : Int32), (∀ g, k ≤ g → g < k + j → th g = nI 0 ∨ th g = nI 1) → frF th c (nI 0) j k a + frF th c (nI 1) j k b = alF c j k (a + b)
  | 0, _, _, _, _ => rfl
  | j + 1, k, a, b, h => by
    unfold frF alF
    have n01 : ¬ nI 1 = nI 0 := by decide
    have n10 : ¬ nI 0 = nI 1 := by decide
    rcases h k (by omega) (by omega) with e | e
    · rw [if_pos e, if_neg (fun z => n10 (e.symm.trans z)), frF_sum j (k + 1) _ _ (fun g h1 h2 => h g (by omega) (by omega))]
      congr 1
      rw [Int32.add_assoc, Int32.add_assoc, Int32.add_comm (c (36 + k))]
    · rw [if_neg (fun z => n01 (e.symm.trans z)), if_pos e, frF_sum j (k + 1) _ _ (fun g h1 h2 => h g (by omega) (by omega)), Int32.add_assoc]
section MO
variable {G M : Nat} {th ta tw tn mg mm c m : Nat → Int32}
theorem freeOf_l {h : Int32} (hG : G ≤ 6) : ∀ (j k n : Nat) (v : Int32), k + j = G → j < n → f_X9_freeOf_4 (nI G) th c n h v (nI k) = some (frF th c h j k v) := by
  intro j
  induction j with
  | zero =>
    intro k n v hk h1
    obtain ⟨n, rfl⟩ : ∃ q, n = q + 1 := ⟨n - 1, by omega⟩
    simp (disch := omega) only [f_X9_freeOf_4, f_X9_freeOf, b_X9_freeOf_36, b_X9_freeOf_4, b_X9_freeOf_0, frF, neg_nI, lit_nI, nI_add, pk_mul, pk_sub, nI_clamp, inB_nI, gd_true, bnd_def, nI_leI, nI_ltI, nI_eq, nI_mI, mI_nI, nle_T, nle_F, nlt_T, nlt_F, neq_T, neq_F, ↓reduceIte, Nat.add_zero, Nat.zero_add, Nat.mul_zero, Nat.reduceAdd, Nat.reduceMul, Nat.reduceSub, ob1_e, ob2_e, ob3_e, ob4_e, ob6_e]
  | succ j ih =>
    intro k n v hk h1
    obtain ⟨n, rfl⟩ : ∃ q, n = q + 1 := ⟨n - 1, by omega⟩
    by_cases e : th k = h
    · simp (disch := omega) only [f_X9_freeOf_4, f_X9_freeOf, b_X9_freeOf_36, b_X9_freeOf_4, b_X9_freeOf_0, frF, e, free_c, ih (k + 1) n _ (by omega) (by omega), neg_nI, lit_nI, nI_add, pk_mul, pk_sub, nI_clamp, inB_nI, gd_true, bnd_def, nI_leI, nI_ltI, nI_eq, nI_mI, mI_nI, nle_T, nle_F, nlt_T, nlt_F, neq_T, neq_F, ↓reduceIte, Nat.add_zero, Nat.zero_add, Nat.mul_zero, Nat.reduceAdd, Nat.reduceMul, Nat.reduceSub, ob1_e, ob2_e, ob3_e, ob4_e, ob6_e]
    · simp (disch := omega) only [f_X9_freeOf_4, f_X9_freeOf, b_X9_freeOf_36, b_X9_freeOf_4, b_X9_freeOf_0, frF, e, ih (k + 1) n _ (by omega) (by omega), neg_nI, lit_nI, nI_add, pk_mul, pk_sub, nI_clamp, inB_nI, gd_true, bnd_def, nI_leI, nI_ltI, nI_eq, nI_mI, mI_nI, nle_T, nle_F, nlt_T, nlt_F, neq_T, neq_F, ↓reduceIte, Nat.add_zero, Nat.zero_add, Nat.mul_zero, Nat.reduceAdd, Nat.reduceMul, Nat.reduceSub, ob1_e, ob2_e, ob3_e, ob4_e, ob6_e]
theorem freeOf_c {h : Int32} (hG : G ≤ 6) : f_X9_freeOf (nI G) th c h = some (frF th c h G 0 (nI 0)) := freeOf_l hG G 0 fu (nI 0) (by omega) (by have := fu_le; omega)
theorem sharesY_l {h cc : Int32} (hG : G ≤ 6) (hh : ∀ g, g < G → mg (4 * g) = th g) (hN : RN G M c m) : ∀ (j k n : Nat) (al it : Int32), k + j = G → j < n → f_X12_shares_37 (nI G) mg m n h cc al it (nI k) = some (if alF c j k al = nI 0 then nI 0 else cc * frF th c h j k it / alF c j k al) := by
  intro j
  induction j with
  | zero =>
    intro k n al it hk h1
    obtain ⟨n, rfl⟩ : ∃ q, n = q + 1 := ⟨n - 1, by omega⟩
    by_cases e : al = nI 0
    · simp (disch := omega) only [f_X12_shares_37, f_X12_shares, b_X12_shares_86, b_X12_shares_37, b_X12_shares_0, frF, alF, e, neg_nI, lit_nI, nI_add, pk_mul, pk_sub, nI_clamp, inB_nI, gd_true, bnd_def, nI_leI, nI_ltI, nI_eq, nI_mI, mI_nI, nle_T, nle_F, nlt_T, nlt_F, neq_T, neq_F, ↓reduceIte, Nat.add_zero, Nat.zero_add, Nat.mul_zero, Nat.reduceAdd, Nat.reduceMul, Nat.reduceSub, ob1_e, ob2_e, ob3_e, ob4_e, ob6_e]
    · have e2 := nzB_t e
      simp (disch := omega) only [f_X12_shares_37, f_X12_shares, b_X12_shares_86, b_X12_shares_37, b_X12_shares_0, frF, alF, e, e2, neg_nI, lit_nI, nI_add, pk_mul, pk_sub, nI_clamp, inB_nI, gd_true, bnd_def, nI_leI, nI_ltI, nI_eq, nI_mI, mI_nI, nle_T, nle_F, nlt_T, nlt_F, neq_T, neq_F, ↓reduceIte, Nat.add_zero, Nat.zero_add, Nat.mul_zero, Nat.reduceAdd, Nat.reduceMul, Nat.reduceSub, ob1_e, ob2_e, ob3_e, ob4_e, ob6_e]
  | succ j ih =>
    intro k n al it hk h1
    obtain ⟨n, rfl⟩ : ∃ q, n = q + 1 := ⟨n - 1, by omega⟩
    have g1 := hh k (by omega)
    have f1 : m (36 + k) = c (36 + k) := hN _ (by omega)
    by_cases e : th k = h
    · have e2 : frF th c h (j + 1) k it = frF th c h j (k + 1) (it + c (36 + k)) := by rw [frF, if_pos e]
      rw [e2, alF, ← ih (k + 1) n _ _ (by omega) (by omega)]
      simp (disch := omega) only [f_X12_shares_37, f_X12_shares, b_X12_shares_86, b_X12_shares_37, b_X12_shares_0, of_c, g1, f1, e, neg_nI, lit_nI, nI_add, pk_mul, pk_sub, nI_clamp, inB_nI, gd_true, bnd_def, nI_leI, nI_ltI, nI_eq, nI_mI, mI_nI, nle_T, nle_F, nlt_T, nlt_F, neq_T, neq_F, ↓reduceIte, Nat.add_zero, Nat.zero_add, Nat.mul_zero, Nat.reduceAdd, Nat.reduceMul, Nat.reduceSub, ob1_e, ob2_e, ob3_e, ob4_e, ob6_e]
    · have e2 : frF th c h (j + 1) k it = frF th c h j (k + 1) it := by rw [frF, if_neg e]
      rw [e2, alF, ← ih (k + 1) n _ _ (by omega) (by omega)]
      simp (disch := omega) only [f_X12_shares_37, f_X12_shares, b_X12_shares_86, b_X12_shares_37, b_X12_shares_0, of_c, g1, f1, e, add0, neg_nI, lit_nI, nI_add, pk_mul, pk_sub, nI_clamp, inB_nI, gd_true, bnd_def, nI_leI, nI_ltI, nI_eq, nI_mI, mI_nI, nle_T, nle_F, nlt_T, nlt_F, neq_T, neq_F, ↓reduceIte, Nat.add_zero, Nat.zero_add, Nat.mul_zero, Nat.reduceAdd, Nat.reduceMul, Nat.reduceSub, ob1_e, ob2_e, ob3_e, ob4_e, ob6_e]
theorem s_shares (hG : G ≤ 6) (hh : ∀ g, g < G → mg (4 * g) = th g) (h01 : ∀ g, g < G → th g = nI 0 ∨ th g = nI 1) (hN : RN G M c m) (x v : Int32) : ∃ r, f_X11_shares (nI G) th c x v = some r ∧ f_X12_shares (nI G) mg m x v = some r := by
  by_cases g0 : G = 0
  · refine ⟨mI 1, ?_, ?_⟩
    · simp (disch := omega) only [f_X11_shares, b_X11_shares_0, noPeace_y g0, neg_nI, lit_nI, nI_add, pk_mul, pk_sub, nI_clamp, inB_nI, gd_true, bnd_def, nI_leI, nI_ltI, nI_eq, nI_mI, mI_nI, nle_T, nle_F, nlt_T, nlt_F, neq_T, neq_F, ↓reduceIte, Nat.add_zero, Nat.zero_add, Nat.mul_zero, Nat.reduceAdd, Nat.reduceMul, Nat.reduceSub, ob1_e, ob2_e, ob3_e, ob4_e, ob6_e]
    · simp (disch := omega) only [f_X12_shares, b_X12_shares_86, b_X12_shares_37, b_X12_shares_0, neg_nI, lit_nI, nI_add, pk_mul, pk_sub, nI_clamp, inB_nI, gd_true, bnd_def, nI_leI, nI_ltI, nI_eq, nI_mI, mI_nI, nle_T, nle_F, nlt_T, nlt_F, neq_T, neq_F, ↓reduceIte, Nat.add_zero, Nat.zero_add, Nat.mul_zero, Nat.reduceAdd, Nat.reduceMul, Nat.reduceSub, ob1_e, ob2_e, ob3_e, ob4_e, ob6_e]
  · rcases rng x 1 (by omega) with ⟨h, hle, rfl⟩ | k0 | ⟨k0, k1, k2⟩
    · rcases rng v 999 (by omega) with ⟨w, hw, rfl⟩ | k0 | ⟨k0, k1, k2⟩
      · have hy := sharesY_l (h := nI h) (cc := nI w) hG hh hN G 0 fu (nI 0) (nI 0) (by omega) (by have := fu_le; omega)
        have hs := frF_sum (th := th) (c := c) G 0 (nI 0) (nI 0) (fun g _ hg => h01 g (by omega))
        rw [add0] at hs
        refine ⟨if alF c G 0 (nI 0) = nI 0 then nI 0 else nI w * frF th c (nI h) G 0 (nI 0) / alF c G 0 (nI 0), ?_, ?_⟩
        · by_cases e : alF c G 0 (nI 0) = nI 0
          · rw [if_pos e]
            simp (disch := omega) only [f_X11_shares, b_X11_shares_0, noPeace_n, freeOf_c hG, hs, e, neg_nI, lit_nI, nI_add, pk_mul, pk_sub, nI_clamp, inB_nI, gd_true, bnd_def, nI_leI, nI_ltI, nI_eq, nI_mI, mI_nI, nle_T, nle_F, nlt_T, nlt_F, neq_T, neq_F, ↓reduceIte, Nat.add_zero, Nat.zero_add, Nat.mul_zero, Nat.reduceAdd, Nat.reduceMul, Nat.reduceSub, ob1_e, ob2_e, ob3_e, ob4_e, ob6_e]
          · rw [if_neg e]
            have e2 := nzB_t e
            simp (disch := omega) only [f_X11_shares, b_X11_shares_0, noPeace_n, freeOf_c hG, hs, e, e2, neg_nI, lit_nI, nI_add, pk_mul, pk_sub, nI_clamp, inB_nI, gd_true, bnd_def, nI_leI, nI_ltI, nI_eq, nI_mI, mI_nI, nle_T, nle_F, nlt_T, nlt_F, neq_T, neq_F, ↓reduceIte, Nat.add_zero, Nat.zero_add, Nat.mul_zero, Nat.reduceAdd, Nat.reduceMul, Nat.reduceSub, ob1_e, ob2_e, ob3_e, ob4_e, ob6_e]
        · rw [← hy]
          simp (disch := omega) only [f_X12_shares, b_X12_shares_86, b_X12_shares_37, b_X12_shares_0, in_c, neg_nI, lit_nI, nI_add, pk_mul, pk_sub, nI_clamp, inB_nI, gd_true, bnd_def, nI_leI, nI_ltI, nI_eq, nI_mI, mI_nI, nle_T, nle_F, nlt_T, nlt_F, neq_T, neq_F, ↓reduceIte, Nat.add_zero, Nat.zero_add, Nat.mul_zero, Nat.reduceAdd, Nat.reduceMul, Nat.reduceSub, ob1_e, ob2_e, ob3_e, ob4_e, ob6_e]
      · refine ⟨mI 1, ?_, ?_⟩
        · simp (disch := omega) only [f_X11_shares, b_X11_shares_0, noPeace_n, k0, neg_nI, lit_nI, nI_add, pk_mul, pk_sub, nI_clamp, inB_nI, gd_true, bnd_def, nI_leI, nI_ltI, nI_eq, nI_mI, mI_nI, nle_T, nle_F, nlt_T, nlt_F, neq_T, neq_F, ↓reduceIte, Nat.add_zero, Nat.zero_add, Nat.mul_zero, Nat.reduceAdd, Nat.reduceMul, Nat.reduceSub, ob1_e, ob2_e, ob3_e, ob4_e, ob6_e]
        · simp (disch := omega) only [f_X12_shares, b_X12_shares_86, b_X12_shares_37, b_X12_shares_0, in_c, in_lo (hi := nI 999) k0, neg_nI, lit_nI, nI_add, pk_mul, pk_sub, nI_clamp, inB_nI, gd_true, bnd_def, nI_leI, nI_ltI, nI_eq, nI_mI, mI_nI, nle_T, nle_F, nlt_T, nlt_F, neq_T, neq_F, ↓reduceIte, Nat.add_zero, Nat.zero_add, Nat.mul_zero, Nat.reduceAdd, Nat.reduceMul, Nat.reduceSub, ob1_e, ob2_e, ob3_e, ob4_e, ob6_e]
      · refine ⟨mI 1, ?_, ?_⟩
        · simp (disch := omega) only [f_X11_shares, b_X11_shares_0, noPeace_n, k0, k2, neg_nI, lit_nI, nI_add, pk_mul, pk_sub, nI_clamp, inB_nI, gd_true, bnd_def, nI_leI, nI_ltI, nI_eq, nI_mI, mI_nI, nle_T, nle_F, nlt_T, nlt_F, neq_T, neq_F, ↓reduceIte, Nat.add_zero, Nat.zero_add, Nat.mul_zero, Nat.reduceAdd, Nat.reduceMul, Nat.reduceSub, ob1_e, ob2_e, ob3_e, ob4_e, ob6_e]
        · simp (disch := omega) only [f_X12_shares, b_X12_shares_86, b_X12_shares_37, b_X12_shares_0, in_c, in_hi (lo := nI 0) k1, neg_nI, lit_nI, nI_add, pk_mul, pk_sub, nI_clamp, inB_nI, gd_true, bnd_def, nI_leI, nI_ltI, nI_eq, nI_mI, mI_nI, nle_T, nle_F, nlt_T, nlt_F, neq_T, neq_F, ↓reduceIte, Nat.add_zero, Nat.zero_add, Nat.mul_zero, Nat.reduceAdd, Nat.reduceMul, Nat.reduceSub, ob1_e, ob2_e, ob3_e, ob4_e, ob6_e]
    · refine ⟨mI 1, ?_, ?_⟩
      · simp (disch := omega) only [f_X11_shares, b_X11_shares_0, noPeace_n, k0, neg_nI, lit_nI, nI_add, pk_mul, pk_sub, nI_clamp, inB_nI, gd_true, bnd_def, nI_leI, nI_ltI, nI_eq, nI_mI, mI_nI, nle_T, nle_F, nlt_T, nlt_F, neq_T, neq_F, ↓reduceIte, Nat.add_zero, Nat.zero_add, Nat.mul_zero, Nat.reduceAdd, Nat.reduceMul, Nat.reduceSub, ob1_e, ob2_e, ob3_e, ob4_e, ob6_e]
      · simp (disch := omega) only [f_X12_shares, b_X12_shares_86, b_X12_shares_37, b_X12_shares_0, in_lo (hi := nI 1) k0, neg_nI, lit_nI, nI_add, pk_mul, pk_sub, nI_clamp, inB_nI, gd_true, bnd_def, nI_leI, nI_ltI, nI_eq, nI_mI, mI_nI, nle_T, nle_F, nlt_T, nlt_F, neq_T, neq_F, ↓reduceIte, Nat.add_zero, Nat.zero_add, Nat.mul_zero, Nat.reduceAdd, Nat.reduceMul, Nat.reduceSub, ob1_e, ob2_e, ob3_e, ob4_e, ob6_e]
    · refine ⟨mI 1, ?_, ?_⟩
      · simp (disch := omega) only [f_X11_shares, b_X11_shares_0, noPeace_n, k0, k1, neg_nI, lit_nI, nI_add, pk_mul, pk_sub, nI_clamp, inB_nI, gd_true, bnd_def, nI_leI, nI_ltI, nI_eq, nI_mI, mI_nI, nle_T, nle_F, nlt_T, nlt_F, neq_T, neq_F, ↓reduceIte, Nat.add_zero, Nat.zero_add, Nat.mul_zero, Nat.reduceAdd, Nat.reduceMul, Nat.reduceSub, ob1_e, ob2_e, ob3_e, ob4_e, ob6_e]
      · simp (disch := omega) only [f_X12_shares, b_X12_shares_86, b_X12_shares_37, b_X12_shares_0, in_hi (lo := nI 0) k1, neg_nI, lit_nI, nI_add, pk_mul, pk_sub, nI_clamp, inB_nI, gd_true, bnd_def, nI_leI, nI_ltI, nI_eq, nI_mI, mI_nI, nle_T, nle_F, nlt_T, nlt_F, neq_T, neq_F, ↓reduceIte, Nat.add_zero, Nat.zero_add, Nat.mul_zero, Nat.reduceAdd, Nat.reduceMul, Nat.reduceSub, ob1_e, ob2_e, ob3_e, ob4_e, ob6_e]
theorem s_allies (hG : G ≤ 6) (hh : ∀ g, g < G → mg (4 * g) = th g) (ha : ∀ g, g < G → mg (4 * g + 3) = ta g) (x : Int32) : ∃ r, f_X11_allies (nI G) th ta x = some r ∧ f_X12_allies (nI G) mg x = some r := by
  rcases glove_or x hG with ⟨g, hg, rfl⟩ | ⟨q1, q2⟩
  · have lk : ∀ (j k n n' : Nat) (v : Int32), k + j = G → j < n → j < n' → ∃ r, f_X11_allies_17 (nI G) th ta n (nI g) v (nI k) = some r ∧ f_X12_allies_14 (nI G) mg n' (nI g) v (nI k) = some r := by
      intro j
      induction j with
      | zero =>
        intro k n n' v hk h1 h2
        obtain ⟨n, rfl⟩ : ∃ q, n = q + 1 := ⟨n - 1, by omega⟩
        obtain ⟨n', rfl⟩ : ∃ q, n' = q + 1 := ⟨n' - 1, by omega⟩
        exact ⟨v, by simp (disch := omega) only [f_X11_allies_17, f_X11_allies, b_X11_allies_59, b_X11_allies_17, b_X11_allies_0, neg_nI, lit_nI, nI_add, pk_mul, pk_sub, nI_clamp, inB_nI, gd_true, bnd_def, nI_leI, nI_ltI, nI_eq, nI_mI, mI_nI, nle_T, nle_F, nlt_T, nlt_F, neq_T, neq_F, ↓reduceIte, Nat.add_zero, Nat.zero_add, Nat.mul_zero, Nat.reduceAdd, Nat.reduceMul, Nat.reduceSub, ob1_e, ob2_e, ob3_e, ob4_e, ob6_e], by simp (disch := omega) only [f_X12_allies_14, f_X12_allies, b_X12_allies_48, b_X12_allies_47, b_X12_allies_14, b_X12_allies_0, neg_nI, lit_nI, nI_add, pk_mul, pk_sub, nI_clamp, inB_nI, gd_true, bnd_def, nI_leI, nI_ltI, nI_eq, nI_mI, mI_nI, nle_T, nle_F, nlt_T, nlt_F, neq_T, neq_F, ↓reduceIte, Nat.add_zero, Nat.zero_add, Nat.mul_zero, Nat.reduceAdd, Nat.reduceMul, Nat.reduceSub, ob1_e, ob2_e, ob3_e, ob4_e, ob6_e]⟩
      | succ j ih =>
        intro k n n' v hk h1 h2
        obtain ⟨n, rfl⟩ : ∃ q, n = q + 1 := ⟨n - 1, by omega⟩
        obtain ⟨n', rfl⟩ : ∃ q, n' = q + 1 := ⟨n' - 1, by omega⟩
        have g1 := hh g hg
        have g2 := hh k (by omega)
        have a1 := ha g hg
        have a2 := ha k (by omega)
        by_cases ht : th g = th k
        · obtain ⟨r, e1, e2⟩ := ih (k + 1) n n' v (by omega) (by omega) (by omega)
          refine ⟨r, ?_, ?_⟩
          · rw [← e1]
            simp (disch := omega) only [f_X11_allies_17, f_X11_allies, b_X11_allies_59, b_X11_allies_17, b_X11_allies_0, unlike_c, ht, neg_nI, lit_nI, nI_add, pk_mul, pk_sub, nI_clamp, inB_nI, gd_true, bnd_def, nI_leI, nI_ltI, nI_eq, nI_mI, mI_nI, nle_T, nle_F, nlt_T, nlt_F, neq_T, neq_F, ↓reduceIte, Nat.add_zero, Nat.zero_add, Nat.mul_zero, Nat.reduceAdd, Nat.reduceMul, Nat.reduceSub, ob1_e, ob2_e, ob3_e, ob4_e, ob6_e]
          · rw [← e2]
            simp (disch := omega) only [f_X12_allies_14, f_X12_allies, b_X12_allies_48, b_X12_allies_47, b_X12_allies_14, b_X12_allies_0, areTwo_c, g1, g2, ht, or0, neg_nI, lit_nI, nI_add, pk_mul, pk_sub, nI_clamp, inB_nI, gd_true, bnd_def, nI_leI, nI_ltI, nI_eq, nI_mI, mI_nI, nle_T, nle_F, nlt_T, nlt_F, neq_T, neq_F, ↓reduceIte, Nat.add_zero, Nat.zero_add, Nat.mul_zero, Nat.reduceAdd, Nat.reduceMul, Nat.reduceSub, ob1_e, ob2_e, ob3_e, ob4_e, ob6_e]
        · by_cases hs : ta g = ta k
          · obtain ⟨r, e1, e2⟩ := ih (k + 1) n n' (v ||| ((1 : Int32) <<< (nI k &&& 31))) (by omega) (by omega) (by omega)
            refine ⟨r, ?_, ?_⟩
            · rw [← e1]
              simp (disch := omega) only [f_X11_allies_17, f_X11_allies, b_X11_allies_59, b_X11_allies_17, b_X11_allies_0, unlike_c, ht, sameAim_c, hs, neg_nI, lit_nI, nI_add, pk_mul, pk_sub, nI_clamp, inB_nI, gd_true, bnd_def, nI_leI, nI_ltI, nI_eq, nI_mI, mI_nI, nle_T, nle_F, nlt_T, nlt_F, neq_T, neq_F, ↓reduceIte, Nat.add_zero, Nat.zero_add, Nat.mul_zero, Nat.reduceAdd, Nat.reduceMul, Nat.reduceSub, ob1_e, ob2_e, ob3_e, ob4_e, ob6_e]
            · rw [← e2]
              simp (disch := omega) only [f_X12_allies_14, f_X12_allies, b_X12_allies_48, b_X12_allies_47, b_X12_allies_14, b_X12_allies_0, areTwo_c, g1, g2, ht, areAllies_c, a1, a2, hs, neg_nI, lit_nI, nI_add, pk_mul, pk_sub, nI_clamp, inB_nI, gd_true, bnd_def, nI_leI, nI_ltI, nI_eq, nI_mI, mI_nI, nle_T, nle_F, nlt_T, nlt_F, neq_T, neq_F, ↓reduceIte, Nat.add_zero, Nat.zero_add, Nat.mul_zero, Nat.reduceAdd, Nat.reduceMul, Nat.reduceSub, ob1_e, ob2_e, ob3_e, ob4_e, ob6_e]
          · obtain ⟨r, e1, e2⟩ := ih (k + 1) n n' v (by omega) (by omega) (by omega)
            refine ⟨r, ?_, ?_⟩
            · rw [← e1]
              simp (disch := omega) only [f_X11_allies_17, f_X11_allies, b_X11_allies_59, b_X11_allies_17, b_X11_allies_0, unlike_c, ht, sameAim_c, hs, neg_nI, lit_nI, nI_add, pk_mul, pk_sub, nI_clamp, inB_nI, gd_true, bnd_def, nI_leI, nI_ltI, nI_eq, nI_mI, mI_nI, nle_T, nle_F, nlt_T, nlt_F, neq_T, neq_F, ↓reduceIte, Nat.add_zero, Nat.zero_add, Nat.mul_zero, Nat.reduceAdd, Nat.reduceMul, Nat.reduceSub, ob1_e, ob2_e, ob3_e, ob4_e, ob6_e]
            · rw [← e2]
              simp (disch := omega) only [f_X12_allies_14, f_X12_allies, b_X12_allies_48, b_X12_allies_47, b_X12_allies_14, b_X12_allies_0, areTwo_c, g1, g2, ht, areAllies_c, a1, a2, hs, or0, neg_nI, lit_nI, nI_add, pk_mul, pk_sub, nI_clamp, inB_nI, gd_true, bnd_def, nI_leI, nI_ltI, nI_eq, nI_mI, mI_nI, nle_T, nle_F, nlt_T, nlt_F, neq_T, neq_F, ↓reduceIte, Nat.add_zero, Nat.zero_add, Nat.mul_zero, Nat.reduceAdd, Nat.reduceMul, Nat.reduceSub, ob1_e, ob2_e, ob3_e, ob4_e, ob6_e]
    obtain ⟨r, e1, e2⟩ := lk G 0 fu fu (nI 0) (by omega) (by have := fu_le; omega) (by have := fu_le; omega)
    refine ⟨r, ?_, ?_⟩
    · rw [← e1]
      simp (disch := omega) only [f_X11_allies, b_X11_allies_59, b_X11_allies_17, b_X11_allies_0, hasGlove_y, neg_nI, lit_nI, nI_add, pk_mul, pk_sub, nI_clamp, inB_nI, gd_true, bnd_def, nI_leI, nI_ltI, nI_eq, nI_mI, mI_nI, nle_T, nle_F, nlt_T, nlt_F, neq_T, neq_F, ↓reduceIte, Nat.add_zero, Nat.zero_add, Nat.mul_zero, Nat.reduceAdd, Nat.reduceMul, Nat.reduceSub, ob1_e, ob2_e, ob3_e, ob4_e, ob6_e]
    · rw [← e2]
      simp (disch := omega) only [f_X12_allies, b_X12_allies_48, b_X12_allies_47, b_X12_allies_14, b_X12_allies_0, isGlove_y, neg_nI, lit_nI, nI_add, pk_mul, pk_sub, nI_clamp, inB_nI, gd_true, bnd_def, nI_leI, nI_ltI, nI_eq, nI_mI, mI_nI, nle_T, nle_F, nlt_T, nlt_F, neq_T, neq_F, ↓reduceIte, Nat.add_zero, Nat.zero_add, Nat.mul_zero, Nat.reduceAdd, Nat.reduceMul, Nat.reduceSub, ob1_e, ob2_e, ob3_e, ob4_e, ob6_e]
  · refine ⟨mI 1, ?_, ?_⟩
    · simp (disch := omega) only [f_X11_allies, b_X11_allies_59, b_X11_allies_17, b_X11_allies_0, q1, neg_nI, lit_nI, nI_add, pk_mul, pk_sub, nI_clamp, inB_nI, gd_true, bnd_def, nI_leI, nI_ltI, nI_eq, nI_mI, mI_nI, nle_T, nle_F, nlt_T, nlt_F, neq_T, neq_F, ↓reduceIte, Nat.add_zero, Nat.zero_add, Nat.mul_zero, Nat.reduceAdd, Nat.reduceMul, Nat.reduceSub, ob1_e, ob2_e, ob3_e, ob4_e, ob6_e]
    · simp (disch := omega) only [f_X12_allies, b_X12_allies_48, b_X12_allies_47, b_X12_allies_14, b_X12_allies_0, q2, neg_nI, lit_nI, nI_add, pk_mul, pk_sub, nI_clamp, inB_nI, gd_true, bnd_def, nI_leI, nI_ltI, nI_eq, nI_mI, mI_nI, nle_T, nle_F, nlt_T, nlt_F, neq_T, neq_F, ↓reduceIte, Nat.add_zero, Nat.zero_add, Nat.mul_zero, Nat.reduceAdd, Nat.reduceMul, Nat.reduceSub, ob1_e, ob2_e, ob3_e, ob4_e, ob6_e]
theorem metSet_c (hG : G ≤ 6) (hN : RN G M c m) : f_X12_metSet (nI G) m = some (bbF (pMet c) G 0 (nI 0)) := by
  have lk : ∀ (j k n : Nat) (v : Int32), k + j = G → j < n → f_X12_metSet_4 (nI G) m n v (nI k) = some (bbF (pMet c) j k v) := by
    intro j
    induction j with
    | zero =>
      intro k n v hk h1
      obtain ⟨n, rfl⟩ : ∃ q, n = q + 1 := ⟨n - 1, by omega⟩
      simp (disch := omega) only [f_X12_metSet_4, f_X12_metSet, b_X12_metSet_28, b_X12_metSet_4, b_X12_metSet_0, bbF, neg_nI, lit_nI, nI_add, pk_mul, pk_sub, nI_clamp, inB_nI, gd_true, bnd_def, nI_leI, nI_ltI, nI_eq, nI_mI, mI_nI, nle_T, nle_F, nlt_T, nlt_F, neq_T, neq_F, ↓reduceIte, Nat.add_zero, Nat.zero_add, Nat.mul_zero, Nat.reduceAdd, Nat.reduceMul, Nat.reduceSub, ob1_e, ob2_e, ob3_e, ob4_e, ob6_e]
    | succ j ih =>
      intro k n v hk h1
      obtain ⟨n, rfl⟩ : ∃ q, n = q + 1 := ⟨n - 1, by omega⟩
      have f1 : m (54 + k) = c (54 + k) := hN _ (by omega)
      by_cases hs : c (54 + k) = mI 1
      · have hp : pMet c k = false := by unfold pMet; rw [decide_eq_false (fun q => q hs)]
        simp (disch := omega) only [f_X12_metSet_4, f_X12_metSet, b_X12_metSet_28, b_X12_metSet_4, b_X12_metSet_0, isFree_c, f1, hs, bbF, hp, or0, ih (k + 1) n _ (by omega) (by omega), Bool.false_eq_true, neg_nI, lit_nI, nI_add, pk_mul, pk_sub, nI_clamp, inB_nI, gd_true, bnd_def, nI_leI, nI_ltI, nI_eq, nI_mI, mI_nI, nle_T, nle_F, nlt_T, nlt_F, neq_T, neq_F, ↓reduceIte, Nat.add_zero, Nat.zero_add, Nat.mul_zero, Nat.reduceAdd, Nat.reduceMul, Nat.reduceSub, ob1_e, ob2_e, ob3_e, ob4_e, ob6_e]
      · have hp : pMet c k = true := by unfold pMet; rw [decide_eq_true hs]
        simp (disch := omega) only [f_X12_metSet_4, f_X12_metSet, b_X12_metSet_28, b_X12_metSet_4, b_X12_metSet_0, isFree_c, f1, hs, bbF, hp, ih (k + 1) n _ (by omega) (by omega), neg_nI, lit_nI, nI_add, pk_mul, pk_sub, nI_clamp, inB_nI, gd_true, bnd_def, nI_leI, nI_ltI, nI_eq, nI_mI, mI_nI, nle_T, nle_F, nlt_T, nlt_F, neq_T, neq_F, ↓reduceIte, Nat.add_zero, Nat.zero_add, Nat.mul_zero, Nat.reduceAdd, Nat.reduceMul, Nat.reduceSub, ob1_e, ob2_e, ob3_e, ob4_e, ob6_e]
  exact lk G 0 fu (nI 0) (by omega) (by have := fu_le; omega)
theorem signed_c (hM : M ≤ 5) (hN : RN G M c m) : ∃ r, f_X9_signedBits (nI M) c = some r ∧ f_X12_signedSet (nI M) m = some r := by
  have lk : ∀ (j k n n' : Nat) (v : Int32), k + j = M → j < n → j < n' → ∃ r, f_X9_signedBits_4 (nI M) c n v (nI k) = some r ∧ f_X12_signedSet_4 (nI M) m n' v (nI k) = some r := by
    intro j
    induction j with
    | zero =>
      intro k n n' v hk h1 h2
      obtain ⟨n, rfl⟩ : ∃ q, n = q + 1 := ⟨n - 1, by omega⟩
      obtain ⟨n', rfl⟩ : ∃ q, n' = q + 1 := ⟨n' - 1, by omega⟩
      exact ⟨v, by simp (disch := omega) only [f_X9_signedBits_4, f_X9_signedBits, b_X9_signedBits_30, b_X9_signedBits_4, b_X9_signedBits_0, neg_nI, lit_nI, nI_add, pk_mul, pk_sub, nI_clamp, inB_nI, gd_true, bnd_def, nI_leI, nI_ltI, nI_eq, nI_mI, mI_nI, nle_T, nle_F, nlt_T, nlt_F, neq_T, neq_F, ↓reduceIte, Nat.add_zero, Nat.zero_add, Nat.mul_zero, Nat.reduceAdd, Nat.reduceMul, Nat.reduceSub, ob1_e, ob2_e, ob3_e, ob4_e, ob6_e], by simp (disch := omega) only [f_X12_signedSet_4, f_X12_signedSet, b_X12_signedSet_33, b_X12_signedSet_4, b_X12_signedSet_0, neg_nI, lit_nI, nI_add, pk_mul, pk_sub, nI_clamp, inB_nI, gd_true, bnd_def, nI_leI, nI_ltI, nI_eq, nI_mI, mI_nI, nle_T, nle_F, nlt_T, nlt_F, neq_T, neq_F, ↓reduceIte, Nat.add_zero, Nat.zero_add, Nat.mul_zero, Nat.reduceAdd, Nat.reduceMul, Nat.reduceSub, ob1_e, ob2_e, ob3_e, ob4_e, ob6_e]⟩
    | succ j ih =>
      intro k n n' v hk h1 h2
      obtain ⟨n, rfl⟩ : ∃ q, n = q + 1 := ⟨n - 1, by omega⟩
      obtain ⟨n', rfl⟩ : ∃ q, n' = q + 1 := ⟨n' - 1, by omega⟩
      have f1 : m (60 + k) = c (60 + k) := hN _ (by omega)
      by_cases hs : c (60 + k) = mI 1
      · obtain ⟨r, e1, e2⟩ := ih (k + 1) n n' v (by omega) (by omega) (by omega)
        refine ⟨r, ?_, ?_⟩
        · rw [← e1]
          simp (disch := omega) only [f_X9_signedBits_4, f_X9_signedBits, b_X9_signedBits_30, b_X9_signedBits_4, b_X9_signedBits_0, signers_c, hs, neg_nI, lit_nI, nI_add, pk_mul, pk_sub, nI_clamp, inB_nI, gd_true, bnd_def, nI_leI, nI_ltI, nI_eq, nI_mI, mI_nI, nle_T, nle_F, nlt_T, nlt_F, neq_T, neq_F, ↓reduceIte, Nat.add_zero, Nat.zero_add, Nat.mul_zero, Nat.reduceAdd, Nat.reduceMul, Nat.reduceSub, ob1_e, ob2_e, ob3_e, ob4_e, ob6_e]
        · rw [← e2]
          simp (disch := omega) only [f_X12_signedSet_4, f_X12_signedSet, b_X12_signedSet_33, b_X12_signedSet_4, b_X12_signedSet_0, f1, hs, or0, neg_nI, lit_nI, nI_add, pk_mul, pk_sub, nI_clamp, inB_nI, gd_true, bnd_def, nI_leI, nI_ltI, nI_eq, nI_mI, mI_nI, nle_T, nle_F, nlt_T, nlt_F, neq_T, neq_F, ↓reduceIte, Nat.add_zero, Nat.zero_add, Nat.mul_zero, Nat.reduceAdd, Nat.reduceMul, Nat.reduceSub, ob1_e, ob2_e, ob3_e, ob4_e, ob6_e]
      · obtain ⟨r, e1, e2⟩ := ih (k + 1) n n' (v ||| ((1 : Int32) <<< (nI k &&& 31))) (by omega) (by omega) (by omega)
        refine ⟨r, ?_, ?_⟩
        · rw [← e1]
          simp (disch := omega) only [f_X9_signedBits_4, f_X9_signedBits, b_X9_signedBits_30, b_X9_signedBits_4, b_X9_signedBits_0, signers_c, hs, neg_nI, lit_nI, nI_add, pk_mul, pk_sub, nI_clamp, inB_nI, gd_true, bnd_def, nI_leI, nI_ltI, nI_eq, nI_mI, mI_nI, nle_T, nle_F, nlt_T, nlt_F, neq_T, neq_F, ↓reduceIte, Nat.add_zero, Nat.zero_add, Nat.mul_zero, Nat.reduceAdd, Nat.reduceMul, Nat.reduceSub, ob1_e, ob2_e, ob3_e, ob4_e, ob6_e]
        · rw [← e2]
          simp (disch := omega) only [f_X12_signedSet_4, f_X12_signedSet, b_X12_signedSet_33, b_X12_signedSet_4, b_X12_signedSet_0, f1, hs, neg_nI, lit_nI, nI_add, pk_mul, pk_sub, nI_clamp, inB_nI, gd_true, bnd_def, nI_leI, nI_ltI, nI_eq, nI_mI, mI_nI, nle_T, nle_F, nlt_T, nlt_F, neq_T, neq_F, ↓reduceIte, Nat.add_zero, Nat.zero_add, Nat.mul_zero, Nat.reduceAdd, Nat.reduceMul, Nat.reduceSub, ob1_e, ob2_e, ob3_e, ob4_e, ob6_e]
  obtain ⟨r, e1, e2⟩ := lk M 0 fu fu (nI 0) (by omega) (by have := fu_le; omega) (by have := fu_le; omega)
  exact ⟨r, e1, e2⟩
theorem bound_c (hM : M ≤ 5) (hw : ∀ k, k < M → mm (2 * k) = tw k) (hN : RN G M c m) : ∃ r, f_X9_bound (nI M) tw c = some r ∧ f_X12_bound (nI M) mm m = some r := by
  have lk : ∀ (j k n n' : Nat) (v : Int32), k + j = M → j < n → j < n' → ∃ r, f_X9_bound_4 (nI M) tw c n v (nI k) = some r ∧ f_X12_bound_4 (nI M) mm m n' v (nI k) = some r := by
    intro j
    induction j with
    | zero =>
      intro k n n' v hk h1 h2
      obtain ⟨n, rfl⟩ : ∃ q, n = q + 1 := ⟨n - 1, by omega⟩
      obtain ⟨n', rfl⟩ : ∃ q, n' = q + 1 := ⟨n' - 1, by omega⟩
      exact ⟨v, by simp (disch := omega) only [f_X9_bound_4, f_X9_bound, b_X9_bound_36, b_X9_bound_4, b_X9_bound_0, neg_nI, lit_nI, nI_add, pk_mul, pk_sub, nI_clamp, inB_nI, gd_true, bnd_def, nI_leI, nI_ltI, nI_eq, nI_mI, mI_nI, nle_T, nle_F, nlt_T, nlt_F, neq_T, neq_F, ↓reduceIte, Nat.add_zero, Nat.zero_add, Nat.mul_zero, Nat.reduceAdd, Nat.reduceMul, Nat.reduceSub, ob1_e, ob2_e, ob3_e, ob4_e, ob6_e], by simp (disch := omega) only [f_X12_bound_4, f_X12_bound, b_X12_bound_40, b_X12_bound_4, b_X12_bound_0, neg_nI, lit_nI, nI_add, pk_mul, pk_sub, nI_clamp, inB_nI, gd_true, bnd_def, nI_leI, nI_ltI, nI_eq, nI_mI, mI_nI, nle_T, nle_F, nlt_T, nlt_F, neq_T, neq_F, ↓reduceIte, Nat.add_zero, Nat.zero_add, Nat.mul_zero, Nat.reduceAdd, Nat.reduceMul, Nat.reduceSub, ob1_e, ob2_e, ob3_e, ob4_e, ob6_e]⟩
    | succ j ih =>
      intro k n n' v hk h1 h2
      obtain ⟨n, rfl⟩ : ∃ q, n = q + 1 := ⟨n - 1, by omega⟩
      obtain ⟨n', rfl⟩ : ∃ q, n' = q + 1 := ⟨n' - 1, by omega⟩
      have f1 : m (60 + k) = c (60 + k) := hN _ (by omega)
      have f2 := hw k (by omega)
      by_cases hs : c (60 + k) = mI 1
      · obtain ⟨r, e1, e2⟩ := ih (k + 1) n n' v (by omega) (by omega) (by omega)
        refine ⟨r, ?_, ?_⟩
        · rw [← e1]
          simp (disch := omega) only [f_X9_bound_4, f_X9_bound, b_X9_bound_36, b_X9_bound_4, b_X9_bound_0, signers_c, hs, neg_nI, lit_nI, nI_add, pk_mul, pk_sub, nI_clamp, inB_nI, gd_true, bnd_def, nI_leI, nI_ltI, nI_eq, nI_mI, mI_nI, nle_T, nle_F, nlt_T, nlt_F, neq_T, neq_F, ↓reduceIte, Nat.add_zero, Nat.zero_add, Nat.mul_zero, Nat.reduceAdd, Nat.reduceMul, Nat.reduceSub, ob1_e, ob2_e, ob3_e, ob4_e, ob6_e]
        · rw [← e2]
          simp (disch := omega) only [f_X12_bound_4, f_X12_bound, b_X12_bound_40, b_X12_bound_4, b_X12_bound_0, f1, hs, add0, neg_nI, lit_nI, nI_add, pk_mul, pk_sub, nI_clamp, inB_nI, gd_true, bnd_def, nI_leI, nI_ltI, nI_eq, nI_mI, mI_nI, nle_T, nle_F, nlt_T, nlt_F, neq_T, neq_F, ↓reduceIte, Nat.add_zero, Nat.zero_add, Nat.mul_zero, Nat.reduceAdd, Nat.reduceMul, Nat.reduceSub, ob1_e, ob2_e, ob3_e, ob4_e, ob6_e]
      · obtain ⟨r, e1, e2⟩ := ih (k + 1) n n' (v + tw k) (by omega) (by omega) (by omega)
        refine ⟨r, ?_, ?_⟩
        · rw [← e1]
          simp (disch := omega) only [f_X9_bound_4, f_X9_bound, b_X9_bound_36, b_X9_bound_4, b_X9_bound_0, signers_c, hs, neg_nI, lit_nI, nI_add, pk_mul, pk_sub, nI_clamp, inB_nI, gd_true, bnd_def, nI_leI, nI_ltI, nI_eq, nI_mI, mI_nI, nle_T, nle_F, nlt_T, nlt_F, neq_T, neq_F, ↓reduceIte, Nat.add_zero, Nat.zero_add, Nat.mul_zero, Nat.reduceAdd, Nat.reduceMul, Nat.reduceSub, ob1_e, ob2_e, ob3_e, ob4_e, ob6_e]
        · rw [← e2]
          simp (disch := omega) only [f_X12_bound_4, f_X12_bound, b_X12_bound_40, b_X12_bound_4, b_X12_bound_0, f1, f2, hs, neg_nI, lit_nI, nI_add, pk_mul, pk_sub, nI_clamp, inB_nI, gd_true, bnd_def, nI_leI, nI_ltI, nI_eq, nI_mI, mI_nI, nle_T, nle_F, nlt_T, nlt_F, neq_T, neq_F, ↓reduceIte, Nat.add_zero, Nat.zero_add, Nat.mul_zero, Nat.reduceAdd, Nat.reduceMul, Nat.reduceSub, ob1_e, ob2_e, ob3_e, ob4_e, ob6_e]
  obtain ⟨r, e1, e2⟩ := lk M 0 fu fu (nI 0) (by omega) (by have := fu_le; omega) (by have := fu_le; omega)
  exact ⟨r, e1, e2⟩
theorem gmost_c {row : Nat} (hG : G ≤ 6) (hG0 : 0 < G) (hr : row = 36 ∨ row = 42) (hN : RN G M c m) : ∃ r, f_X9_gloveMost (nI G) c (nI row) = some r ∧ f_X12_topGlove (nI G) m (nI row) = some r := by
  have lk : ∀ (j k n n' b : Nat), k + j = G → j < n → j < n' → b < G → ∃ r, f_X9_gloveMost_4 (nI G) c n (nI row) (nI b) (nI k) = some r ∧ f_X12_topGlove_4 (nI G) m n' (nI row) (nI b) (nI k) = some r := by
    intro j
    induction j with
    | zero =>
      intro k n n' b hk h1 h2 hb
      obtain ⟨n, rfl⟩ : ∃ q, n = q + 1 := ⟨n - 1, by omega⟩
      obtain ⟨n', rfl⟩ : ∃ q, n' = q + 1 := ⟨n' - 1, by omega⟩
      exact ⟨nI b, by simp (disch := omega) only [f_X9_gloveMost_4, f_X9_gloveMost, b_X9_gloveMost_36, b_X9_gloveMost_4, b_X9_gloveMost_0, neg_nI, lit_nI, nI_add, pk_mul, pk_sub, nI_clamp, inB_nI, gd_true, bnd_def, nI_leI, nI_ltI, nI_eq, nI_mI, mI_nI, nle_T, nle_F, nlt_T, nlt_F, neq_T, neq_F, ↓reduceIte, Nat.add_zero, Nat.zero_add, Nat.mul_zero, Nat.reduceAdd, Nat.reduceMul, Nat.reduceSub, ob1_e, ob2_e, ob3_e, ob4_e, ob6_e], by simp (disch := omega) only [f_X12_topGlove_4, f_X12_topGlove, b_X12_topGlove_36, b_X12_topGlove_4, b_X12_topGlove_0, neg_nI, lit_nI, nI_add, pk_mul, pk_sub, nI_clamp, inB_nI, gd_true, bnd_def, nI_leI, nI_ltI, nI_eq, nI_mI, mI_nI, nle_T, nle_F, nlt_T, nlt_F, neq_T, neq_F, ↓reduceIte, Nat.add_zero, Nat.zero_add, Nat.mul_zero, Nat.reduceAdd, Nat.reduceMul, Nat.reduceSub, ob1_e, ob2_e, ob3_e, ob4_e, ob6_e]⟩
    | succ j ih =>
      intro k n n' b hk h1 h2 hb
      obtain ⟨n, rfl⟩ : ∃ q, n = q + 1 := ⟨n - 1, by omega⟩
      obtain ⟨n', rfl⟩ : ∃ q, n' = q + 1 := ⟨n' - 1, by omega⟩
      have f1 : m (row + k) = c (row + k) := hN _ (by omega)
      have f2 : m (row + b) = c (row + b) := hN _ (by omega)
      by_cases hs : c (row + k) ≤ c (row + b)
      · obtain ⟨r, e1, e2⟩ := ih (k + 1) n n' b (by omega) (by omega) (by omega) hb
        refine ⟨r, ?_, ?_⟩
        · rw [← e1]
          simp (disch := omega) only [f_X9_gloveMost_4, f_X9_gloveMost, b_X9_gloveMost_36, b_X9_gloveMost_4, b_X9_gloveMost_0, hs, neg_nI, lit_nI, nI_add, pk_mul, pk_sub, nI_clamp, inB_nI, gd_true, bnd_def, nI_leI, nI_ltI, nI_eq, nI_mI, mI_nI, nle_T, nle_F, nlt_T, nlt_F, neq_T, neq_F, ↓reduceIte, Nat.add_zero, Nat.zero_add, Nat.mul_zero, Nat.reduceAdd, Nat.reduceMul, Nat.reduceSub, ob1_e, ob2_e, ob3_e, ob4_e, ob6_e]
        · rw [← e2]
          simp (disch := omega) only [f_X12_topGlove_4, f_X12_topGlove, b_X12_topGlove_36, b_X12_topGlove_4, b_X12_topGlove_0, f1, f2, hs, neg_nI, lit_nI, nI_add, pk_mul, pk_sub, nI_clamp, inB_nI, gd_true, bnd_def, nI_leI, nI_ltI, nI_eq, nI_mI, mI_nI, nle_T, nle_F, nlt_T, nlt_F, neq_T, neq_F, ↓reduceIte, Nat.add_zero, Nat.zero_add, Nat.mul_zero, Nat.reduceAdd, Nat.reduceMul, Nat.reduceSub, ob1_e, ob2_e, ob3_e, ob4_e, ob6_e]
      · obtain ⟨r, e1, e2⟩ := ih (k + 1) n n' k (by omega) (by omega) (by omega) (by omega)
        refine ⟨r, ?_, ?_⟩
        · rw [← e1]
          simp (disch := omega) only [f_X9_gloveMost_4, f_X9_gloveMost, b_X9_gloveMost_36, b_X9_gloveMost_4, b_X9_gloveMost_0, hs, neg_nI, lit_nI, nI_add, pk_mul, pk_sub, nI_clamp, inB_nI, gd_true, bnd_def, nI_leI, nI_ltI, nI_eq, nI_mI, mI_nI, nle_T, nle_F, nlt_T, nlt_F, neq_T, neq_F, ↓reduceIte, Nat.add_zero, Nat.zero_add, Nat.mul_zero, Nat.reduceAdd, Nat.reduceMul, Nat.reduceSub, ob1_e, ob2_e, ob3_e, ob4_e, ob6_e]
        · rw [← e2]
          simp (disch := omega) only [f_X12_topGlove_4, f_X12_topGlove, b_X12_topGlove_36, b_X12_topGlove_4, b_X12_topGlove_0, f1, f2, hs, neg_nI, lit_nI, nI_add, pk_mul, pk_sub, nI_clamp, inB_nI, gd_true, bnd_def, nI_leI, nI_ltI, nI_eq, nI_mI, mI_nI, nle_T, nle_F, nlt_T, nlt_F, neq_T, neq_F, ↓reduceIte, Nat.add_zero, Nat.zero_add, Nat.mul_zero, Nat.reduceAdd, Nat.reduceMul, Nat.reduceSub, ob1_e, ob2_e, ob3_e, ob4_e, ob6_e]
  obtain ⟨r, e1, e2⟩ := lk (G - 1) 1 fu fu 0 (by omega) (by have := fu_le; omega) (by have := fu_le; omega) hG0
  exact ⟨r, e1, e2⟩
theorem heaviest_c (hM : M ≤ 5) (hw : ∀ k, k < M → mm (2 * k) = tw k) (hwb : ∀ k, k < M → ∃ w, w ≤ 9 ∧ tw k = nI w) : ∃ r, f_X5_heaviest (nI M) tw = some r ∧ f_X12_heaviest (nI M) mm = some r := by
  have lk : ∀ (j k n n' b : Nat), k + j = M → j < n → j < n' → b < M → ∃ r, f_X5_heaviest_6 (nI M) tw n (nI b) (tw b) (nI k) = some r ∧ f_X12_heaviest_15 (nI M) mm n' (nI b) (nI k) = some r := by
    intro j
    induction j with
    | zero =>
      intro k n n' b hk h1 h2 hb
      obtain ⟨n, rfl⟩ : ∃ q, n = q + 1 := ⟨n - 1, by omega⟩
      obtain ⟨n', rfl⟩ : ∃ q, n' = q + 1 := ⟨n' - 1, by omega⟩
      exact ⟨nI b, by simp (disch := omega) only [f_X5_heaviest_6, f_X5_heaviest, b_X5_heaviest_33, b_X5_heaviest_6, b_X5_heaviest_0, neg_nI, lit_nI, nI_add, pk_mul, pk_sub, nI_clamp, inB_nI, gd_true, bnd_def, nI_leI, nI_ltI, nI_eq, nI_mI, mI_nI, nle_T, nle_F, nlt_T, nlt_F, neq_T, neq_F, ↓reduceIte, Nat.add_zero, Nat.zero_add, Nat.mul_zero, Nat.reduceAdd, Nat.reduceMul, Nat.reduceSub, ob1_e, ob2_e, ob3_e, ob4_e, ob6_e], by simp (disch := omega) only [f_X12_heaviest_15, f_X12_heaviest, b_X12_heaviest_51, b_X12_heaviest_15, b_X12_heaviest_12, b_X12_heaviest_0, neg_nI, lit_nI, nI_add, pk_mul, pk_sub, nI_clamp, inB_nI, gd_true, bnd_def, nI_leI, nI_ltI, nI_eq, nI_mI, mI_nI, nle_T, nle_F, nlt_T, nlt_F, neq_T, neq_F, ↓reduceIte, Nat.add_zero, Nat.zero_add, Nat.mul_zero, Nat.reduceAdd, Nat.reduceMul, Nat.reduceSub, ob1_e, ob2_e, ob3_e, ob4_e, ob6_e]⟩
    | succ j ih =>
      intro k n n' b hk h1 h2 hb
      obtain ⟨n, rfl⟩ : ∃ q, n = q + 1 := ⟨n - 1, by omega⟩
      obtain ⟨n', rfl⟩ : ∃ q, n' = q + 1 := ⟨n' - 1, by omega⟩
      have f1 := hw k (by omega)
      have f2 := hw b hb
      by_cases hs : tw k ≤ tw b
      · obtain ⟨r, e1, e2⟩ := ih (k + 1) n n' b (by omega) (by omega) (by omega) hb
        refine ⟨r, ?_, ?_⟩
        · rw [← e1]
          simp (disch := omega) only [f_X5_heaviest_6, f_X5_heaviest, b_X5_heaviest_33, b_X5_heaviest_6, b_X5_heaviest_0, hs, neg_nI, lit_nI, nI_add, pk_mul, pk_sub, nI_clamp, inB_nI, gd_true, bnd_def, nI_leI, nI_ltI, nI_eq, nI_mI, mI_nI, nle_T, nle_F, nlt_T, nlt_F, neq_T, neq_F, ↓reduceIte, Nat.add_zero, Nat.zero_add, Nat.mul_zero, Nat.reduceAdd, Nat.reduceMul, Nat.reduceSub, ob1_e, ob2_e, ob3_e, ob4_e, ob6_e]
        · rw [← e2]
          simp (disch := omega) only [f_X12_heaviest_15, f_X12_heaviest, b_X12_heaviest_51, b_X12_heaviest_15, b_X12_heaviest_12, b_X12_heaviest_0, f1, f2, hs, neg_nI, lit_nI, nI_add, pk_mul, pk_sub, nI_clamp, inB_nI, gd_true, bnd_def, nI_leI, nI_ltI, nI_eq, nI_mI, mI_nI, nle_T, nle_F, nlt_T, nlt_F, neq_T, neq_F, ↓reduceIte, Nat.add_zero, Nat.zero_add, Nat.mul_zero, Nat.reduceAdd, Nat.reduceMul, Nat.reduceSub, ob1_e, ob2_e, ob3_e, ob4_e, ob6_e]
      · obtain ⟨r, e1, e2⟩ := ih (k + 1) n n' k (by omega) (by omega) (by omega) (by omega)
        refine ⟨r, ?_, ?_⟩
        · rw [← e1]
          simp (disch := omega) only [f_X5_heaviest_6, f_X5_heaviest, b_X5_heaviest_33, b_X5_heaviest_6, b_X5_heaviest_0, hs, neg_nI, lit_nI, nI_add, pk_mul, pk_sub, nI_clamp, inB_nI, gd_true, bnd_def, nI_leI, nI_ltI, nI_eq, nI_mI, mI_nI, nle_T, nle_F, nlt_T, nlt_F, neq_T, neq_F, ↓reduceIte, Nat.add_zero, Nat.zero_add, Nat.mul_zero, Nat.reduceAdd, Nat.reduceMul, Nat.reduceSub, ob1_e, ob2_e, ob3_e, ob4_e, ob6_e]
        · rw [← e2]
          simp (disch := omega) only [f_X12_heaviest_15, f_X12_heaviest, b_X12_heaviest_51, b_X12_heaviest_15, b_X12_heaviest_12, b_X12_heaviest_0, f1, f2, hs, neg_nI, lit_nI, nI_add, pk_mul, pk_sub, nI_clamp, inB_nI, gd_true, bnd_def, nI_leI, nI_ltI, nI_eq, nI_mI, mI_nI, nle_T, nle_F, nlt_T, nlt_F, neq_T, neq_F, ↓reduceIte, Nat.add_zero, Nat.zero_add, Nat.mul_zero, Nat.reduceAdd, Nat.reduceMul, Nat.reduceSub, ob1_e, ob2_e, ob3_e, ob4_e, ob6_e]
  obtain ⟨fu2, hfu⟩ : ∃ q, fu = q + 1 := ⟨fu - 1, by have := fu_le; omega⟩
  have hf9 := fu_le
  by_cases m0 : M = 0
  · subst m0
    refine ⟨mI 1, ?_, ?_⟩
    · unfold f_X5_heaviest b_X5_heaviest_0
      rw [hfu]
      simp (disch := omega) only [f_X5_heaviest_6, b_X5_heaviest_6, neg_nI, lit_nI, nI_add, pk_mul, pk_sub, nI_clamp, inB_nI, gd_true, bnd_def, nI_leI, nI_ltI, nI_eq, nI_mI, mI_nI, nle_T, nle_F, nlt_T, nlt_F, neq_T, neq_F, ↓reduceIte, Nat.add_zero, Nat.zero_add, Nat.mul_zero, Nat.reduceAdd, Nat.reduceMul, Nat.reduceSub, ob1_e, ob2_e, ob3_e, ob4_e, ob6_e]
    · simp (disch := omega) only [f_X12_heaviest, b_X12_heaviest_0, b_X12_heaviest_12, neg_nI, lit_nI, nI_add, pk_mul, pk_sub, nI_clamp, inB_nI, gd_true, bnd_def, nI_leI, nI_ltI, nI_eq, nI_mI, mI_nI, nle_T, nle_F, nlt_T, nlt_F, neq_T, neq_F, ↓reduceIte, Nat.add_zero, Nat.zero_add, Nat.mul_zero, Nat.reduceAdd, Nat.reduceMul, Nat.reduceSub, ob1_e, ob2_e, ob3_e, ob4_e, ob6_e]
      rw [hfu]
      simp (disch := omega) only [f_X12_heaviest_15, b_X12_heaviest_15, neg_nI, lit_nI, nI_add, pk_mul, pk_sub, nI_clamp, inB_nI, gd_true, bnd_def, nI_leI, nI_ltI, nI_eq, nI_mI, mI_nI, nle_T, nle_F, nlt_T, nlt_F, neq_T, neq_F, ↓reduceIte, Nat.add_zero, Nat.zero_add, Nat.mul_zero, Nat.reduceAdd, Nat.reduceMul, Nat.reduceSub, ob1_e, ob2_e, ob3_e, ob4_e, ob6_e]
  · obtain ⟨r, e1, e2⟩ := lk (M - 1) 1 fu2 fu 0 (by omega) (by omega) (by omega) (by omega)
    refine ⟨r, ?_, ?_⟩
    · obtain ⟨w, hw9, ew⟩ := hwb 0 (by omega)
      have hneg : ¬ tw 0 ≤ mI 1 := by
        rw [ew, le32, nI_toInt (by omega), mI_toInt (by omega)]
        omega
      rw [← e1]
      unfold f_X5_heaviest b_X5_heaviest_0
      rw [hfu]
      simp (disch := omega) only [f_X5_heaviest_6, b_X5_heaviest_6, b_X5_heaviest_33, hneg, neg_nI, lit_nI, nI_add, pk_mul, pk_sub, nI_clamp, inB_nI, gd_true, bnd_def, nI_leI, nI_ltI, nI_eq, nI_mI, mI_nI, nle_T, nle_F, nlt_T, nlt_F, neq_T, neq_F, ↓reduceIte, Nat.add_zero, Nat.zero_add, Nat.mul_zero, Nat.reduceAdd, Nat.reduceMul, Nat.reduceSub, ob1_e, ob2_e, ob3_e, ob4_e, ob6_e]
    · rw [← e2]
      simp (disch := omega) only [f_X12_heaviest, b_X12_heaviest_0, b_X12_heaviest_12, neg_nI, lit_nI, nI_add, pk_mul, pk_sub, nI_clamp, inB_nI, gd_true, bnd_def, nI_leI, nI_ltI, nI_eq, nI_mI, mI_nI, nle_T, nle_F, nlt_T, nlt_F, neq_T, neq_F, ↓reduceIte, Nat.add_zero, Nat.zero_add, Nat.mul_zero, Nat.reduceAdd, Nat.reduceMul, Nat.reduceSub, ob1_e, ob2_e, ob3_e, ob4_e, ob6_e]
end MO
