/-! games of houses -/
def cnt (th : Nat → Int32) (h : Int32) : Nat → Nat
  | 0 => 0
  | t + 1 => cnt th h t + (if th t = h then 1 else 0)
theorem cnt_y {th : Nat → Int32} {h : Int32} {t : Nat} (e : th t = h) : cnt th h (t + 1) = cnt th h t + 1 := by rw [cnt, if_pos e]
theorem cnt_n {th : Nat → Int32} {h : Int32} {t : Nat} (e : ¬ th t = h) : cnt th h (t + 1) = cnt th h t := by rw [cnt, if_neg e, Nat.add_zero]
theorem cnt_le (th : Nat → Int32) (h : Int32) : ∀ t, cnt th h t ≤ t
  | 0 => Nat.le_refl 0
  | t + 1 => by
    have := cnt_le th h t
    rw [cnt]
    split <;> omega
theorem cnt_mono (th : Nat → Int32) (h : Int32) (a : Nat) : ∀ j, cnt th h a ≤ cnt th h (a + j)
  | 0 => Nat.le_refl _
  | j + 1 => by
    have := cnt_mono th h a j
    rw [← Nat.add_assoc, cnt]
    omega
theorem cnt_lt {th : Nat → Int32} {h : Int32} {a b : Nat} (e : th a = h) (hab : a < b) : cnt th h a < cnt th h b := by
  have h1 := cnt_y e
  have h2 := cnt_mono th h (a + 1) (b - (a + 1))
  rw [show a + 1 + (b - (a + 1)) = b by omega] at h2
  omega
def ntF (th : Nat → Int32) (h x : Int32) : Nat → Nat → Int32 → Int32
  | 0, _, _ => mI 1
  | j + 1, k, v => if th k = h then (if v = x then nI k else ntF th h x j (k + 1) (v + nI 1)) else ntF th h x j (k + 1) v
def nt (G : Nat) (th : Nat → Int32) (h x : Int32) : Int32 := ntF th h x G 0 (nI 0)
theorem ntF_or {th : Nat → Int32} {h x : Int32} : ∀ (j k : Nat) (v : Int32), ntF th h x j k v = mI 1 ∨ ∃ g, g < k + j ∧ ntF th h x j k v = nI g ∧ th g = h
  | 0, k, v => Or.inl rfl
  | j + 1, k, v => by
    rw [ntF]
    by_cases e : th k = h
    · rw [if_pos e]
      by_cases e2 : v = x
      · rw [if_pos e2]
        exact Or.inr ⟨k, by omega, rfl, e⟩
      · rw [if_neg e2]
        rcases ntF_or j (k + 1) (v + nI 1) with q | ⟨g, q1, q2⟩
        · exact Or.inl q
        · exact Or.inr ⟨g, by omega, q2⟩
    · rw [if_neg e]
      rcases ntF_or j (k + 1) v with q | ⟨g, q1, q2⟩
      · exact Or.inl q
      · exact Or.inr ⟨g, by omega, q2⟩
theorem nt_or (G : Nat) (th : Nat → Int32) (h x : Int32) : nt G th h x = mI 1 ∨ ∃ g, g < G ∧ nt G th h x = nI g ∧ th g = h := by
  rcases ntF_or (th := th) (h := h) (x := x) G 0 (nI 0) with q | ⟨g, q1, q2⟩
  · exact Or.inl q
  · exact Or.inr ⟨g, by omega, q2⟩
theorem nt_at {G : Nat} {th : Nat → Int32} {h : Int32} {t : Nat} (hG : G ≤ 6) (ht : t < G) (e : th t = h) : nt G th h (nI (cnt th h t)) = nI t := by
  have key : ∀ j k, k + j = G → k ≤ t → ntF th h (nI (cnt th h t)) j k (nI (cnt th h k)) = nI t := by
    intro j
    induction j with
    | zero => intro k h1 h2; omega
    | succ j ih =>
      intro k h1 h2
      rw [ntF]
      by_cases e2 : k = t
      · rw [e2, if_pos e, if_pos rfl]
      · by_cases e3 : th k = h
        · have l := cnt_lt e3 (show k < t by omega)
          have l2 := cnt_le th h t
          rw [if_pos e3, if_neg (fun z => by have := nI_inj (by omega) (by omega) z; omega), nI_add, ← cnt_y e3]
          exact ih (k + 1) (by omega) (by omega)
        · rw [if_neg e3, ← cnt_n e3]
          exact ih (k + 1) (by omega) (by omega)
  exact key G 0 (by omega) (by omega)
theorem nthX_l {G : Nat} {th : Nat → Int32} {h x : Int32} (hG : G ≤ 6) : ∀ (j k n : Nat) (v : Int32), k + j = G → j < n → f_X5_nth_5 (nI G) th n h x v (nI k) = some (ntF th h x j k v) := by
  intro j
  induction j with
  | zero =>
    intro k n v hk h1
    obtain ⟨n, rfl⟩ : ∃ q, n = q + 1 := ⟨n - 1, by omega⟩
    simp (disch := omega) only [f_X5_nth_5, f_X5_nth, b_X5_nth_36, b_X5_nth_5, b_X5_nth_0, ntF, neg_nI, lit_nI, nI_add, pk_mul, pk_sub, nI_clamp, inB_nI, gd_true, bnd_def, nI_leI, nI_ltI, nI_eq, nI_mI, mI_nI, nle_T, nle_F, nlt_T, nlt_F, neq_T, neq_F, ↓reduceIte, Nat.add_zero, Nat.zero_add, Nat.mul_zero, Nat.reduceAdd, Nat.reduceMul, Nat.reduceSub, ob1_e, ob2_e, ob3_e, ob4_e, ob6_e]
  | succ j ih =>
    intro k n v hk h1
    obtain ⟨n, rfl⟩ : ∃ q, n = q + 1 := ⟨n - 1, by omega⟩
    by_cases e : th k = h
    · by_cases e2 : v = x
      · simp (disch := omega) only [f_X5_nth_5, f_X5_nth, b_X5_nth_36, b_X5_nth_5, b_X5_nth_0, ntF, e, e2, neg_nI, lit_nI, nI_add, pk_mul, pk_sub, nI_clamp, inB_nI, gd_true, bnd_def, nI_leI, nI_ltI, nI_eq, nI_mI, mI_nI, nle_T, nle_F, nlt_T, nlt_F, neq_T, neq_F, ↓reduceIte, Nat.add_zero, Nat.zero_add, Nat.mul_zero, Nat.reduceAdd, Nat.reduceMul, Nat.reduceSub, ob1_e, ob2_e, ob3_e, ob4_e, ob6_e]
      · simp (disch := omega) only [f_X5_nth_5, f_X5_nth, b_X5_nth_36, b_X5_nth_5, b_X5_nth_0, ntF, e, e2, ih (k + 1) n _ (by omega) (by omega), neg_nI, lit_nI, nI_add, pk_mul, pk_sub, nI_clamp, inB_nI, gd_true, bnd_def, nI_leI, nI_ltI, nI_eq, nI_mI, mI_nI, nle_T, nle_F, nlt_T, nlt_F, neq_T, neq_F, ↓reduceIte, Nat.add_zero, Nat.zero_add, Nat.mul_zero, Nat.reduceAdd, Nat.reduceMul, Nat.reduceSub, ob1_e, ob2_e, ob3_e, ob4_e, ob6_e]
    · simp (disch := omega) only [f_X5_nth_5, f_X5_nth, b_X5_nth_36, b_X5_nth_5, b_X5_nth_0, ntF, e, ih (k + 1) n _ (by omega) (by omega), neg_nI, lit_nI, nI_add, pk_mul, pk_sub, nI_clamp, inB_nI, gd_true, bnd_def, nI_leI, nI_ltI, nI_eq, nI_mI, mI_nI, nle_T, nle_F, nlt_T, nlt_F, neq_T, neq_F, ↓reduceIte, Nat.add_zero, Nat.zero_add, Nat.mul_zero, Nat.reduceAdd, Nat.reduceMul, Nat.reduceSub, ob1_e, ob2_e, ob3_e, ob4_e, ob6_e]
theorem nthY_l {G : Nat} {th mg : Nat → Int32} {h x : Int32} (hG : G ≤ 6) (hh : ∀ g, g < G → mg (4 * g) = th g) : ∀ (j k n : Nat) (v : Int32), k + j = G → j < n → f_X12_gloveOf_5 (nI G) mg n h x v (nI k) = some (ntF th h x j k v) := by
  intro j
  induction j with
  | zero =>
    intro k n v hk h1
    obtain ⟨n, rfl⟩ : ∃ q, n = q + 1 := ⟨n - 1, by omega⟩
    simp (disch := omega) only [f_X12_gloveOf_5, f_X12_gloveOf, b_X12_gloveOf_36, b_X12_gloveOf_5, b_X12_gloveOf_0, ntF, neg_nI, lit_nI, nI_add, pk_mul, pk_sub, nI_clamp, inB_nI, gd_true, bnd_def, nI_leI, nI_ltI, nI_eq, nI_mI, mI_nI, nle_T, nle_F, nlt_T, nlt_F, neq_T, neq_F, ↓reduceIte, Nat.add_zero, Nat.zero_add, Nat.mul_zero, Nat.reduceAdd, Nat.reduceMul, Nat.reduceSub, ob1_e, ob2_e, ob3_e, ob4_e, ob6_e]
  | succ j ih =>
    intro k n v hk h1
    obtain ⟨n, rfl⟩ : ∃ q, n = q + 1 := ⟨n - 1, by omega⟩
    have g1 := hh k (by omega)
    by_cases e : th k = h
    · by_cases e2 : v = x
      · simp (disch := omega) only [f_X12_gloveOf_5, f_X12_gloveOf, b_X12_gloveOf_36, b_X12_gloveOf_5, b_X12_gloveOf_0, of_c, g1, ntF, e, e2, neg_nI, lit_nI, nI_add, pk_mul, pk_sub, nI_clamp, inB_nI, gd_true, bnd_def, nI_leI, nI_ltI, nI_eq, nI_mI, mI_nI, nle_T, nle_F, nlt_T, nlt_F, neq_T, neq_F, ↓reduceIte, Nat.add_zero, Nat.zero_add, Nat.mul_zero, Nat.reduceAdd, Nat.reduceMul, Nat.reduceSub, ob1_e, ob2_e, ob3_e, ob4_e, ob6_e]
      · simp (disch := omega) only [f_X12_gloveOf_5, f_X12_gloveOf, b_X12_gloveOf_36, b_X12_gloveOf_5, b_X12_gloveOf_0, of_c, g1, ntF, e, e2, ih (k + 1) n _ (by omega) (by omega), neg_nI, lit_nI, nI_add, pk_mul, pk_sub, nI_clamp, inB_nI, gd_true, bnd_def, nI_leI, nI_ltI, nI_eq, nI_mI, mI_nI, nle_T, nle_F, nlt_T, nlt_F, neq_T, neq_F, ↓reduceIte, Nat.add_zero, Nat.zero_add, Nat.mul_zero, Nat.reduceAdd, Nat.reduceMul, Nat.reduceSub, ob1_e, ob2_e, ob3_e, ob4_e, ob6_e]
    · simp (disch := omega) only [f_X12_gloveOf_5, f_X12_gloveOf, b_X12_gloveOf_36, b_X12_gloveOf_5, b_X12_gloveOf_0, of_c, g1, ntF, e, ih (k + 1) n _ (by omega) (by omega), neg_nI, lit_nI, nI_add, pk_mul, pk_sub, nI_clamp, inB_nI, gd_true, bnd_def, nI_leI, nI_ltI, nI_eq, nI_mI, mI_nI, nle_T, nle_F, nlt_T, nlt_F, neq_T, neq_F, ↓reduceIte, Nat.add_zero, Nat.zero_add, Nat.mul_zero, Nat.reduceAdd, Nat.reduceMul, Nat.reduceSub, ob1_e, ob2_e, ob3_e, ob4_e, ob6_e]
theorem nthX_c {G : Nat} {th : Nat → Int32} {h x : Int32} (hG : G ≤ 6) : f_X5_nth (nI G) th h x = some (nt G th h x) := nthX_l hG G 0 fu (nI 0) (by omega) (by have := fu_le; omega)
theorem nthY_c {G : Nat} {th mg : Nat → Int32} {h x : Int32} (hG : G ≤ 6) (hh : ∀ g, g < G → mg (4 * g) = th g) : f_X12_gloveOf (nI G) mg h x = some (nt G th h x) := nthY_l hG hh G 0 fu (nI 0) (by omega) (by have := fu_le; omega)
theorem sizeX_l {G : Nat} {th : Nat → Int32} {h : Int32} (hG : G ≤ 6) : ∀ (j k n : Nat), k + j = G → j < n → f_X5_sizeOf_4 (nI G) th n h (nI (cnt th h k)) (nI k) = some (nI (cnt th h G)) := by
  intro j
  induction j with
  | zero =>
    intro k n hk h1
    obtain ⟨n, rfl⟩ : ∃ q, n = q + 1 := ⟨n - 1, by omega⟩
    have : k = G := by omega
    subst this
    simp (disch := omega) only [f_X5_sizeOf_4, f_X5_sizeOf, b_X5_sizeOf_25, b_X5_sizeOf_4, b_X5_sizeOf_0, neg_nI, lit_nI, nI_add, pk_mul, pk_sub, nI_clamp, inB_nI, gd_true, bnd_def, nI_leI, nI_ltI, nI_eq, nI_mI, mI_nI, nle_T, nle_F, nlt_T, nlt_F, neq_T, neq_F, ↓reduceIte, Nat.add_zero, Nat.zero_add, Nat.mul_zero, Nat.reduceAdd, Nat.reduceMul, Nat.reduceSub, ob1_e, ob2_e, ob3_e, ob4_e, ob6_e]
  | succ j ih =>
    intro k n hk h1
    obtain ⟨n, rfl⟩ : ∃ q, n = q + 1 := ⟨n - 1, by omega⟩
    have i1 := ih (k + 1) n (by omega) (by omega)
    by_cases e : th k = h
    · rw [cnt_y e] at i1
      simp (disch := omega) only [f_X5_sizeOf_4, f_X5_sizeOf, b_X5_sizeOf_25, b_X5_sizeOf_4, b_X5_sizeOf_0, e, i1, neg_nI, lit_nI, nI_add, pk_mul, pk_sub, nI_clamp, inB_nI, gd_true, bnd_def, nI_leI, nI_ltI, nI_eq, nI_mI, mI_nI, nle_T, nle_F, nlt_T, nlt_F, neq_T, neq_F, ↓reduceIte, Nat.add_zero, Nat.zero_add, Nat.mul_zero, Nat.reduceAdd, Nat.reduceMul, Nat.reduceSub, ob1_e, ob2_e, ob3_e, ob4_e, ob6_e]
    · rw [cnt_n e] at i1
      simp (disch := omega) only [f_X5_sizeOf_4, f_X5_sizeOf, b_X5_sizeOf_25, b_X5_sizeOf_4, b_X5_sizeOf_0, e, i1, neg_nI, lit_nI, nI_add, pk_mul, pk_sub, nI_clamp, inB_nI, gd_true, bnd_def, nI_leI, nI_ltI, nI_eq, nI_mI, mI_nI, nle_T, nle_F, nlt_T, nlt_F, neq_T, neq_F, ↓reduceIte, Nat.add_zero, Nat.zero_add, Nat.mul_zero, Nat.reduceAdd, Nat.reduceMul, Nat.reduceSub, ob1_e, ob2_e, ob3_e, ob4_e, ob6_e]
theorem sizeY_l {G : Nat} {th mg : Nat → Int32} {h : Int32} (hG : G ≤ 6) (hh : ∀ g, g < G → mg (4 * g) = th g) : ∀ (j k n : Nat), k + j = G → j < n → f_X12_manyOf_4 (nI G) mg n h (nI (cnt th h k)) (nI k) = some (nI (cnt th h G)) := by
  intro j
  induction j with
  | zero =>
    intro k n hk h1
    obtain ⟨n, rfl⟩ : ∃ q, n = q + 1 := ⟨n - 1, by omega⟩
    have : k = G := by omega
    subst this
    simp (disch := omega) only [f_X12_manyOf_4, f_X12_manyOf, b_X12_manyOf_28, b_X12_manyOf_4, b_X12_manyOf_0, neg_nI, lit_nI, nI_add, pk_mul, pk_sub, nI_clamp, inB_nI, gd_true, bnd_def, nI_leI, nI_ltI, nI_eq, nI_mI, mI_nI, nle_T, nle_F, nlt_T, nlt_F, neq_T, neq_F, ↓reduceIte, Nat.add_zero, Nat.zero_add, Nat.mul_zero, Nat.reduceAdd, Nat.reduceMul, Nat.reduceSub, ob1_e, ob2_e, ob3_e, ob4_e, ob6_e]
  | succ j ih =>
    intro k n hk h1
    obtain ⟨n, rfl⟩ : ∃ q, n = q + 1 := ⟨n - 1, by omega⟩
    have i1 := ih (k + 1) n (by omega) (by omega)
    have g1 := hh k (by omega)
    by_cases e : th k = h
    · rw [cnt_y e] at i1
      simp (disch := omega) only [f_X12_manyOf_4, f_X12_manyOf, b_X12_manyOf_28, b_X12_manyOf_4, b_X12_manyOf_0, of_c, g1, e, i1, neg_nI, lit_nI, nI_add, pk_mul, pk_sub, nI_clamp, inB_nI, gd_true, bnd_def, nI_leI, nI_ltI, nI_eq, nI_mI, mI_nI, nle_T, nle_F, nlt_T, nlt_F, neq_T, neq_F, ↓reduceIte, Nat.add_zero, Nat.zero_add, Nat.mul_zero, Nat.reduceAdd, Nat.reduceMul, Nat.reduceSub, ob1_e, ob2_e, ob3_e, ob4_e, ob6_e]
    · rw [cnt_n e] at i1
      simp (disch := omega) only [f_X12_manyOf_4, f_X12_manyOf, b_X12_manyOf_28, b_X12_manyOf_4, b_X12_manyOf_0, of_c, g1, e, i1, neg_nI, lit_nI, nI_add, pk_mul, pk_sub, nI_clamp, inB_nI, gd_true, bnd_def, nI_leI, nI_ltI, nI_eq, nI_mI, mI_nI, nle_T, nle_F, nlt_T, nlt_F, neq_T, neq_F, ↓reduceIte, Nat.add_zero, Nat.zero_add, Nat.mul_zero, Nat.reduceAdd, Nat.reduceMul, Nat.reduceSub, ob1_e, ob2_e, ob3_e, ob4_e, ob6_e]
theorem sizeX_c {G : Nat} {th : Nat → Int32} {h : Int32} (hG : G ≤ 6) : f_X5_sizeOf (nI G) th h = some (nI (cnt th h G)) := sizeX_l hG G 0 fu (by omega) (by have := fu_le; omega)
theorem sizeY_c {G : Nat} {th mg : Nat → Int32} {h : Int32} (hG : G ≤ 6) (hh : ∀ g, g < G → mg (4 * g) = th g) : f_X12_manyOf (nI G) mg h = some (nI (cnt th h G)) := sizeY_l hG hh G 0 fu (by omega) (by have := fu_le; omega)
/-! what a house has -/
theorem rv_comm {R : R6} {ta c : Nat → Int32} {g o : Nat} {w d : Int32} : rv R ta c g o w d = rv R ta c o g w d := by
  unfold rv
  rw [Int32.add_comm (c (36 + g)), Int32.add_comm (c (42 + g))]
  congr 1
  by_cases e : ta g = ta o
  · rw [if_pos e, if_pos e.symm]
  · rw [if_neg e, if_neg (fun z => e z.symm)]
/-- a glove's number, or none -/
def gx : Option Nat → Int32
  | some g => nI g
  | none => mI 1
def ga (R : R6) (ta c : Nat → Int32) : Option Nat → Option Nat → Int32
  | none, _ => mI 20
  | some _, none => nI 0
  | some g, some o => rv R ta c g o (c (pl g o)) (c 68) - c (36 + g) / nI 3
theorem nt_gx (G : Nat) (th : Nat → Int32) (h x : Int32) : ∃ z, nt G th h x = gx z ∧ ∀ g, z = some g → g < G ∧ th g = h := by
  rcases nt_or G th h x with q | ⟨g, q1, q2, q3⟩
  · exact ⟨none, q, fun g z => by cases z⟩
  · refine ⟨some g, q2, fun g' z => ?_⟩
    cases z
    exact ⟨q1, q3⟩
theorem hasGlove_m {G : Nat} : f_X5_hasGlove (nI G) (mI 1) = some (nI 0) := by
  have h : mI 1 < nI 0 := by decide
  simp (disch := omega) only [f_X5_hasGlove, b_X5_hasGlove_0, h, neg_nI, lit_nI, nI_add, pk_mul, pk_sub, nI_clamp, inB_nI, gd_true, bnd_def, nI_leI, nI_ltI, nI_eq, nI_mI, mI_nI, nle_T, nle_F, nlt_T, nlt_F, neq_T, neq_F, ↓reduceIte, Nat.add_zero, Nat.zero_add, Nat.mul_zero, Nat.reduceAdd, Nat.reduceMul, Nat.reduceSub, ob1_e, ob2_e, ob3_e, ob4_e, ob6_e]
section GA
variable {R : R6} {lh : Int32} {ll l0 l1 l2 l3 : Nat → Int32} {mh : Int32} {mc mv mk mt ms mu : Nat → Int32}
variable {G M : Nat} {th ta mg c m : Nat → Int32}
theorem gains_c (hX : RiseX R lh ll l0 l1 l2 l3) (hG : G ≤ 6) (z w : Option Nat) (hz : ∀ g, z = some g → g < G) (hw : ∀ g, w = some g → g < G) (lt st : Nat → Int32) : ∃ lt' st', f_X9_gains (nI G) ta lh ll l0 l1 l2 l3 c lt st (gx z) (gx w) = some (ga R ta c z w, lt', st') := by
  cases z with
  | none => exact ⟨lt, st, by simp (disch := omega) only [f_X9_gains, b_X9_gains_0, gx, ga, hasGlove_m, neg_nI, lit_nI, nI_add, pk_mul, pk_sub, nI_clamp, inB_nI, gd_true, bnd_def, nI_leI, nI_ltI, nI_eq, nI_mI, mI_nI, nle_T, nle_F, nlt_T, nlt_F, neq_T, neq_F, ↓reduceIte, Nat.add_zero, Nat.zero_add, Nat.mul_zero, Nat.reduceAdd, Nat.reduceMul, Nat.reduceSub, ob1_e, ob2_e, ob3_e, ob4_e, ob6_e]⟩
  | some g =>
    have hg := hz g rfl
    cases w with
    | none => exact ⟨lt, st, by simp (disch := omega) only [f_X9_gains, b_X9_gains_0, gx, ga, hasGlove_m, hasGlove_y, neg_nI, lit_nI, nI_add, pk_mul, pk_sub, nI_clamp, inB_nI, gd_true, bnd_def, nI_leI, nI_ltI, nI_eq, nI_mI, mI_nI, nle_T, nle_F, nlt_T, nlt_F, neq_T, neq_F, ↓reduceIte, Nat.add_zero, Nat.zero_add, Nat.mul_zero, Nat.reduceAdd, Nat.reduceMul, Nat.reduceSub, ob1_e, ob2_e, ob3_e, ob4_e, ob6_e]⟩
    | some o =>
      have ho := hw o rfl
      obtain ⟨lt', st', e⟩ := riseOf_c hX (ta := ta) (c := c) (lt := lt) (st := st) (g := g) (o := o) ⟨by omega, by omega⟩
      exact ⟨lt', st', by simp (disch := omega) only [f_X9_gains, b_X9_gains_0, gx, ga, hasGlove_y, free_c, e, neg_nI, lit_nI, nI_add, pk_mul, pk_sub, nI_clamp, inB_nI, gd_true, bnd_def, nI_leI, nI_ltI, nI_eq, nI_mI, mI_nI, nle_T, nle_F, nlt_T, nlt_F, neq_T, neq_F, ↓reduceIte, Nat.add_zero, Nat.zero_add, Nat.mul_zero, Nat.reduceAdd, Nat.reduceMul, Nat.reduceSub, ob1_e, ob2_e, ob3_e, ob4_e, ob6_e]⟩
theorem gameOf_c (hY : RiseY R mh mc mv mk mt ms mu) (hG : G ≤ 6) (hh : ∀ g, g < G → mg (4 * g) = th g) (ha : ∀ g, g < G → mg (4 * g + 3) = ta g) (hN : RN G M c m) {x y : Int32} {z w : Option Nat} (ez : nt G th (nI 0) x = gx z) (ew : nt G th (nI 1) y = gx w) (hz : ∀ g, z = some g → g < G) (hw : ∀ g, w = some g → g < G) (k : Nat) (hk : k ≤ 1) (lt st : Nat → Int32) : ∃ lt' st', f_X12_gameOf (nI G) mh mc mv mk mt ms mu mg m lt st x y (nI k) = some (if k = 0 then ga R ta c z w else ga R ta c w z, lt', st') := by
  have n0 := nthY_c (th := th) (mg := mg) (h := nI 0) (x := x) hG hh
  have n1 := nthY_c (th := th) (mg := mg) (h := nI 1) (x := y) hG hh
  rw [ez] at n0
  rw [ew] at n1
  cases z with
  | none =>
    cases w with
    | none =>
      rcases (show k = 0 ∨ k = 1 by omega) with rfl | rfl <;> exact ⟨lt, st, by simp (disch := omega) only [f_X12_gameOf, b_X12_gameOf_50, b_X12_gameOf_27, b_X12_gameOf_0, n0, n1, gx, ga, neg_nI, lit_nI, nI_add, pk_mul, pk_sub, nI_clamp, inB_nI, gd_true, bnd_def, nI_leI, nI_ltI, nI_eq, nI_mI, mI_nI, nle_T, nle_F, nlt_T, nlt_F, neq_T, neq_F, ↓reduceIte, Nat.add_zero, Nat.zero_add, Nat.mul_zero, Nat.reduceAdd, Nat.reduceMul, Nat.reduceSub, ob1_e, ob2_e, ob3_e, ob4_e, ob6_e]⟩
    | some o =>
      have ho := hw o rfl
      rcases (show k = 0 ∨ k = 1 by omega) with rfl | rfl <;> exact ⟨lt, st, by simp (disch := omega) only [f_X12_gameOf, b_X12_gameOf_50, b_X12_gameOf_27, b_X12_gameOf_0, n0, n1, gx, ga, neg_nI, lit_nI, nI_add, pk_mul, pk_sub, nI_clamp, inB_nI, gd_true, bnd_def, nI_leI, nI_ltI, nI_eq, nI_mI, mI_nI, nle_T, nle_F, nlt_T, nlt_F, neq_T, neq_F, ↓reduceIte, Nat.add_zero, Nat.zero_add, Nat.mul_zero, Nat.reduceAdd, Nat.reduceMul, Nat.reduceSub, ob1_e, ob2_e, ob3_e, ob4_e, ob6_e]⟩
  | some g =>
    have hg := hz g rfl
    cases w with
    | none =>
      rcases (show k = 0 ∨ k = 1 by omega) with rfl | rfl <;> exact ⟨lt, st, by simp (disch := omega) only [f_X12_gameOf, b_X12_gameOf_50, b_X12_gameOf_27, b_X12_gameOf_0, n0, n1, gx, ga, neg_nI, lit_nI, nI_add, pk_mul, pk_sub, nI_clamp, inB_nI, gd_true, bnd_def, nI_leI, nI_ltI, nI_eq, nI_mI, mI_nI, nle_T, nle_F, nlt_T, nlt_F, neq_T, neq_F, ↓reduceIte, Nat.add_zero, Nat.zero_add, Nat.mul_zero, Nat.reduceAdd, Nat.reduceMul, Nat.reduceSub, ob1_e, ob2_e, ob3_e, ob4_e, ob6_e]⟩
    | some o =>
      have ho := hw o rfl
      obtain ⟨lt', st', e⟩ := riseOfY_c hY (mg := mg) (m := m) (lt := lt) (st := st) (g := g) (o := o) ⟨by omega, by omega⟩
      have hp := pl_lt (a := g) (b := o) ⟨by omega, by omega⟩
      rw [rv_cong hN ha ⟨hg, ho, hG⟩, hN (pl g o) (by omega), hN 68 (by omega)] at e
      have f1 : m (36 + g) = c (36 + g) := hN _ (by omega)
      have f2 : m (36 + o) = c (36 + o) := hN _ (by omega)
      rcases (show k = 0 ∨ k = 1 by omega) with rfl | rfl
      · exact ⟨lt', st', by simp (disch := omega) only [f_X12_gameOf, b_X12_gameOf_50, b_X12_gameOf_27, b_X12_gameOf_0, n0, n1, gx, ga, e, f1, neg_nI, lit_nI, nI_add, pk_mul, pk_sub, nI_clamp, inB_nI, gd_true, bnd_def, nI_leI, nI_ltI, nI_eq, nI_mI, mI_nI, nle_T, nle_F, nlt_T, nlt_F, neq_T, neq_F, ↓reduceIte, Nat.add_zero, Nat.zero_add, Nat.mul_zero, Nat.reduceAdd, Nat.reduceMul, Nat.reduceSub, ob1_e, ob2_e, ob3_e, ob4_e, ob6_e]⟩
      · refine ⟨lt', st', ?_⟩
        have e2 : ga R ta c (some o) (some g) = rv R ta c g o (c (pl g o)) (c 68) - c (36 + o) / nI 3 := by rw [ga, rv_comm, pl_comm]
        rw [if_neg (by omega), e2]
        simp (disch := omega) only [f_X12_gameOf, b_X12_gameOf_50, b_X12_gameOf_27, b_X12_gameOf_0, n0, n1, gx, e, f2, neg_nI, lit_nI, nI_add, pk_mul, pk_sub, nI_clamp, inB_nI, gd_true, bnd_def, nI_leI, nI_ltI, nI_eq, nI_mI, mI_nI, nle_T, nle_F, nlt_T, nlt_F, neq_T, neq_F, ↓reduceIte, Nat.add_zero, Nat.zero_add, Nat.mul_zero, Nat.reduceAdd, Nat.reduceMul, Nat.reduceSub, ob1_e, ob2_e, ob3_e, ob4_e, ob6_e]
theorem s_game (hX : RiseX R lh ll l0 l1 l2 l3) (hY : RiseY R mh mc mv mk mt ms mu) (hG : G ≤ 6) (hh : ∀ g, g < G → mg (4 * g) = th g) (ha : ∀ g, g < G → mg (4 * g + 3) = ta g) (hN : RN G M c m) (lt st lt2 st2 : Nat → Int32) (x y v : Int32) : ∃ r lt' st' lt2' st2', f_X11_game (nI G) th ta lh ll l0 l1 l2 l3 c lt st x y v = some (r, lt', st') ∧ f_X12_game (nI G) mh mc mv mk mt ms mu mg m lt2 st2 x y v = some (r, lt2', st2') := by
  by_cases g0 : G = 0
  · refine ⟨mI 1000000, lt, st, lt2, st2, ?_, ?_⟩
    · simp (disch := omega) only [f_X11_game, b_X11_game_34, b_X11_game_0, noPeace_y g0, neg_nI, lit_nI, nI_add, pk_mul, pk_sub, nI_clamp, inB_nI, gd_true, bnd_def, nI_leI, nI_ltI, nI_eq, nI_mI, mI_nI, nle_T, nle_F, nlt_T, nlt_F, neq_T, neq_F, ↓reduceIte, Nat.add_zero, Nat.zero_add, Nat.mul_zero, Nat.reduceAdd, Nat.reduceMul, Nat.reduceSub, ob1_e, ob2_e, ob3_e, ob4_e, ob6_e]
    · simp (disch := omega) only [f_X12_game, b_X12_game_34, b_X12_game_0, neg_nI, lit_nI, nI_add, pk_mul, pk_sub, nI_clamp, inB_nI, gd_true, bnd_def, nI_leI, nI_ltI, nI_eq, nI_mI, mI_nI, nle_T, nle_F, nlt_T, nlt_F, neq_T, neq_F, ↓reduceIte, Nat.add_zero, Nat.zero_add, Nat.mul_zero, Nat.reduceAdd, Nat.reduceMul, Nat.reduceSub, ob1_e, ob2_e, ob3_e, ob4_e, ob6_e]
  · rcases rng x 4 (by omega) with ⟨i, hi, rfl⟩ | k0 | ⟨k0, k1, k2⟩
    · rcases rng y 4 (by omega) with ⟨j, hj, rfl⟩ | k0 | ⟨k0, k1, k2⟩
      · rcases rng v 1 (by omega) with ⟨k, hk, rfl⟩ | k0 | ⟨k0, k1, k2⟩
        · obtain ⟨z, ez, hz⟩ := nt_gx G th (nI 0) (nI i)
          obtain ⟨w, ew, hw⟩ := nt_gx G th (nI 1) (nI j)
          obtain ⟨lt2', st2', e2⟩ := gameOf_c hY hG hh ha hN ez ew (fun g q => (hz g q).1) (fun g q => (hw g q).1) k hk lt2 st2
          have n0 := nthX_c (th := th) (h := nI 0) (x := nI i) hG
          have n1 := nthX_c (th := th) (h := nI 1) (x := nI j) hG
          rw [ez] at n0
          rw [ew] at n1
          rcases (show k = 0 ∨ k = 1 by omega) with rfl | rfl
          · obtain ⟨lt', st', e1⟩ := gains_c hX hG (ta := ta) (c := c) z w (fun g q => (hz g q).1) (fun g q => (hw g q).1) lt st
            refine ⟨ga R ta c z w, lt', st', lt2', st2', ?_, ?_⟩
            · simp (disch := omega) only [f_X11_game, b_X11_game_34, b_X11_game_0, noPeace_n, n0, n1, e1, neg_nI, lit_nI, nI_add, pk_mul, pk_sub, nI_clamp, inB_nI, gd_true, bnd_def, nI_leI, nI_ltI, nI_eq, nI_mI, mI_nI, nle_T, nle_F, nlt_T, nlt_F, neq_T, neq_F, ↓reduceIte, Nat.add_zero, Nat.zero_add, Nat.mul_zero, Nat.reduceAdd, Nat.reduceMul, Nat.reduceSub, ob1_e, ob2_e, ob3_e, ob4_e, ob6_e]
            · rw [if_pos rfl] at e2
              simp (disch := omega) only [f_X12_game, b_X12_game_34, b_X12_game_0, in_c, e2, neg_nI, lit_nI, nI_add, pk_mul, pk_sub, nI_clamp, inB_nI, gd_true, bnd_def, nI_leI, nI_ltI, nI_eq, nI_mI, mI_nI, nle_T, nle_F, nlt_T, nlt_F, neq_T, neq_F, ↓reduceIte, Nat.add_zero, Nat.zero_add, Nat.mul_zero, Nat.reduceAdd, Nat.reduceMul, Nat.reduceSub, ob1_e, ob2_e, ob3_e, ob4_e, ob6_e]
          · obtain ⟨lt', st', e1⟩ := gains_c hX hG (ta := ta) (c := c) w z (fun g q => (hw g q).1) (fun g q => (hz g q).1) lt st
            refine ⟨ga R ta c w z, lt', st', lt2', st2', ?_, ?_⟩
            · simp (disch := omega) only [f_X11_game, b_X11_game_34, b_X11_game_0, noPeace_n, n0, n1, e1, neg_nI, lit_nI, nI_add, pk_mul, pk_sub, nI_clamp, inB_nI, gd_true, bnd_def, nI_leI, nI_ltI, nI_eq, nI_mI, mI_nI, nle_T, nle_F, nlt_T, nlt_F, neq_T, neq_F, ↓reduceIte, Nat.add_zero, Nat.zero_add, Nat.mul_zero, Nat.reduceAdd, Nat.reduceMul, Nat.reduceSub, ob1_e, ob2_e, ob3_e, ob4_e, ob6_e]
            · rw [if_neg (by omega)] at e2
              simp (disch := omega) only [f_X12_game, b_X12_game_34, b_X12_game_0, in_c, e2, neg_nI, lit_nI, nI_add, pk_mul, pk_sub, nI_clamp, inB_nI, gd_true, bnd_def, nI_leI, nI_ltI, nI_eq, nI_mI, mI_nI, nle_T, nle_F, nlt_T, nlt_F, neq_T, neq_F, ↓reduceIte, Nat.add_zero, Nat.zero_add, Nat.mul_zero, Nat.reduceAdd, Nat.reduceMul, Nat.reduceSub, ob1_e, ob2_e, ob3_e, ob4_e, ob6_e]
        · refine ⟨mI 1000000, lt, st, lt2, st2, ?_, ?_⟩
          · simp (disch := omega) only [f_X11_game, b_X11_game_34, b_X11_game_0, noPeace_n, k0, neg_nI, lit_nI, nI_add, pk_mul, pk_sub, nI_clamp, inB_nI, gd_true, bnd_def, nI_leI, nI_ltI, nI_eq, nI_mI, mI_nI, nle_T, nle_F, nlt_T, nlt_F, neq_T, neq_F, ↓reduceIte, Nat.add_zero, Nat.zero_add, Nat.mul_zero, Nat.reduceAdd, Nat.reduceMul, Nat.reduceSub, ob1_e, ob2_e, ob3_e, ob4_e, ob6_e]
          · simp (disch := omega) only [f_X12_game, b_X12_game_34, b_X12_game_0, in_c, in_lo (hi := nI 1) k0, neg_nI, lit_nI, nI_add, pk_mul, pk_sub, nI_clamp, inB_nI, gd_true, bnd_def, nI_leI, nI_ltI, nI_eq, nI_mI, mI_nI, nle_T, nle_F, nlt_T, nlt_F, neq_T, neq_F, ↓reduceIte, Nat.add_zero, Nat.zero_add, Nat.mul_zero, Nat.reduceAdd, Nat.reduceMul, Nat.reduceSub, ob1_e, ob2_e, ob3_e, ob4_e, ob6_e]
        · refine ⟨mI 1000000, lt, st, lt2, st2, ?_, ?_⟩
          · simp (disch := omega) only [f_X11_game, b_X11_game_34, b_X11_game_0, noPeace_n, k0, k2, neg_nI, lit_nI, nI_add, pk_mul, pk_sub, nI_clamp, inB_nI, gd_true, bnd_def, nI_leI, nI_ltI, nI_eq, nI_mI, mI_nI, nle_T, nle_F, nlt_T, nlt_F, neq_T, neq_F, ↓reduceIte, Nat.add_zero, Nat.zero_add, Nat.mul_zero, Nat.reduceAdd, Nat.reduceMul, Nat.reduceSub, ob1_e, ob2_e, ob3_e, ob4_e, ob6_e]
          · simp (disch := omega) only [f_X12_game, b_X12_game_34, b_X12_game_0, in_c, in_hi (lo := nI 0) k1, neg_nI, lit_nI, nI_add, pk_mul, pk_sub, nI_clamp, inB_nI, gd_true, bnd_def, nI_leI, nI_ltI, nI_eq, nI_mI, mI_nI, nle_T, nle_F, nlt_T, nlt_F, neq_T, neq_F, ↓reduceIte, Nat.add_zero, Nat.zero_add, Nat.mul_zero, Nat.reduceAdd, Nat.reduceMul, Nat.reduceSub, ob1_e, ob2_e, ob3_e, ob4_e, ob6_e]
      · refine ⟨mI 1000000, lt, st, lt2, st2, ?_, ?_⟩
        · simp (disch := omega) only [f_X11_game, b_X11_game_34, b_X11_game_0, noPeace_n, k0, neg_nI, lit_nI, nI_add, pk_mul, pk_sub, nI_clamp, inB_nI, gd_true, bnd_def, nI_leI, nI_ltI, nI_eq, nI_mI, mI_nI, nle_T, nle_F, nlt_T, nlt_F, neq_T, neq_F, ↓reduceIte, Nat.add_zero, Nat.zero_add, Nat.mul_zero, Nat.reduceAdd, Nat.reduceMul, Nat.reduceSub, ob1_e, ob2_e, ob3_e, ob4_e, ob6_e]
        · simp (disch := omega) only [f_X12_game, b_X12_game_34, b_X12_game_0, in_c, in_lo (hi := nI 4) k0, neg_nI, lit_nI, nI_add, pk_mul, pk_sub, nI_clamp, inB_nI, gd_true, bnd_def, nI_leI, nI_ltI, nI_eq, nI_mI, mI_nI, nle_T, nle_F, nlt_T, nlt_F, neq_T, neq_F, ↓reduceIte, Nat.add_zero, Nat.zero_add, Nat.mul_zero, Nat.reduceAdd, Nat.reduceMul, Nat.reduceSub, ob1_e, ob2_e, ob3_e, ob4_e, ob6_e]
      · refine ⟨mI 1000000, lt, st, lt2, st2, ?_, ?_⟩
        · simp (disch := omega) only [f_X11_game, b_X11_game_34, b_X11_game_0, noPeace_n, k0, k1, neg_nI, lit_nI, nI_add, pk_mul, pk_sub, nI_clamp, inB_nI, gd_true, bnd_def, nI_leI, nI_ltI, nI_eq, nI_mI, mI_nI, nle_T, nle_F, nlt_T, nlt_F, neq_T, neq_F, ↓reduceIte, Nat.add_zero, Nat.zero_add, Nat.mul_zero, Nat.reduceAdd, Nat.reduceMul, Nat.reduceSub, ob1_e, ob2_e, ob3_e, ob4_e, ob6_e]
        · simp (disch := omega) only [f_X12_game, b_X12_game_34, b_X12_game_0, in_c, in_hi (lo := nI 0) k1, neg_nI, lit_nI, nI_add, pk_mul, pk_sub, nI_clamp, inB_nI, gd_true, bnd_def, nI_leI, nI_ltI, nI_eq, nI_mI, mI_nI, nle_T, nle_F, nlt_T, nlt_F, neq_T, neq_F, ↓reduceIte, Nat.add_zero, Nat.zero_add, Nat.mul_zero, Nat.reduceAdd, Nat.reduceMul, Nat.reduceSub, ob1_e, ob2_e, ob3_e, ob4_e, ob6_e]
    · refine ⟨mI 1000000, lt, st, lt2, st2, ?_, ?_⟩
      · simp (disch := omega) only [f_X11_game, b_X11_game_34, b_X11_game_0, noPeace_n, k0, neg_nI, lit_nI, nI_add, pk_mul, pk_sub, nI_clamp, inB_nI, gd_true, bnd_def, nI_leI, nI_ltI, nI_eq, nI_mI, mI_nI, nle_T, nle_F, nlt_T, nlt_F, neq_T, neq_F, ↓reduceIte, Nat.add_zero, Nat.zero_add, Nat.mul_zero, Nat.reduceAdd, Nat.reduceMul, Nat.reduceSub, ob1_e, ob2_e, ob3_e, ob4_e, ob6_e]
      · simp (disch := omega) only [f_X12_game, b_X12_game_34, b_X12_game_0, in_lo (hi := nI 4) k0, neg_nI, lit_nI, nI_add, pk_mul, pk_sub, nI_clamp, inB_nI, gd_true, bnd_def, nI_leI, nI_ltI, nI_eq, nI_mI, mI_nI, nle_T, nle_F, nlt_T, nlt_F, neq_T, neq_F, ↓reduceIte, Nat.add_zero, Nat.zero_add, Nat.mul_zero, Nat.reduceAdd, Nat.reduceMul, Nat.reduceSub, ob1_e, ob2_e, ob3_e, ob4_e, ob6_e]
    · refine ⟨mI 1000000, lt, st, lt2, st2, ?_, ?_⟩
      · simp (disch := omega) only [f_X11_game, b_X11_game_34, b_X11_game_0, noPeace_n, k0, k1, neg_nI, lit_nI, nI_add, pk_mul, pk_sub, nI_clamp, inB_nI, gd_true, bnd_def, nI_leI, nI_ltI, nI_eq, nI_mI, mI_nI, nle_T, nle_F, nlt_T, nlt_F, neq_T, neq_F, ↓reduceIte, Nat.add_zero, Nat.zero_add, Nat.mul_zero, Nat.reduceAdd, Nat.reduceMul, Nat.reduceSub, ob1_e, ob2_e, ob3_e, ob4_e, ob6_e]
      · simp (disch := omega) only [f_X12_game, b_X12_game_34, b_X12_game_0, in_hi (lo := nI 0) k1, neg_nI, lit_nI, nI_add, pk_mul, pk_sub, nI_clamp, inB_nI, gd_true, bnd_def, nI_leI, nI_ltI, nI_eq, nI_mI, mI_nI, nle_T, nle_F, nlt_T, nlt_F, neq_T, neq_F, ↓reduceIte, Nat.add_zero, Nat.zero_add, Nat.mul_zero, Nat.reduceAdd, Nat.reduceMul, Nat.reduceSub, ob1_e, ob2_e, ob3_e, ob4_e, ob6_e]
end GA
