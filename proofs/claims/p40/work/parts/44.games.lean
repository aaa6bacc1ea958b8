section
/-! games of houses -/
def cnt (th : Nat → Int32) (h : Int32) : Nat → Nat
  | 0 => 0
  | t + 1 => cnt th h t + (if th t = h then 1 else 0)
theorem cnt_y {th : Nat → Int32} {h : Int32} {t : Nat} (e : th t = h) : cnt th h (t + 1) = cnt th h t + 1 := by rw [cnt, if_pos e]
theorem cnt_n {th : Nat → Int32} {h : Int32} {t : Nat} (e : ¬ th t = h) : cnt th h (t + 1) = cnt th h t := by rw [cnt, if_neg e, Nat.add_zero]
theorem cnt_le (th : Nat → Int32) (h : Int32) : ∀ t, cnt th h t ≤ t
  | 0 => Nat.le_refl 0
  | t + 1 => by
    have := cnt_le th h t
    rw [cnt]
    split <;> omega
theorem cnt_mono (th : Nat → Int32) (h : Int32) (a : Nat) : ∀ j, cnt th h a ≤ cnt th h (a + j)
  | 0 => Nat.le_refl _
  | j + 1 => by
    have := cnt_mono th h a j
    rw [← Nat.add_assoc, cnt]
    omega
theorem cnt_lt {th : Nat → Int32} {h : Int32} {a b : Nat} (e : th a = h) (hab : a < b) : cnt th h a < cnt th h b := by
  have h1 := cnt_y e
  have h2 := cnt_mono th h (a + 1) (b - (a + 1))
  rw [show a + 1 + (b - (a + 1)) = b by omega] at h2
  omega
def ntF (th : Nat → Int32) (h x : Int32) : Nat → Nat → Int32 → Int32
  | 0, _, _ => mI 1
  | j + 1, k, v => if th k = h then (if v = x then nI k else ntF th h x j (k + 1) (v + nI 1)) else ntF th h x j (k + 1) v
def nt (G : Nat) (th : Nat → Int32) (h x : Int32) : Int32 := ntF th h x G 0 (nI 0)
theorem ntF_or {th : Nat → Int32} {h x : Int32} : ∀ (j k : Nat) (v : Int32), ntF th h x j k v = mI 1 ∨ ∃ g, g < k + j ∧ ntF th h x j k v = nI g ∧ th g = h
  | 0, k, v => Or.inl rfl
  | j + 1, k, v => by
    rw [ntF]
    by_cases e : th k = h
    · rw [if_pos e]
      by_cases e2 : v = x
      · rw [if_pos e2]
        exact Or.inr ⟨k, by omega, rfl, e⟩
      · rw [if_neg e2]
        rcases ntF_or j (k + 1) (v + nI 1) with q | ⟨g, q1, q2⟩
        · exact Or.inl q
        · exact Or.inr ⟨g, by omega, q2⟩
    · rw [if_neg e]
      rcases ntF_or j (k + 1) v with q | ⟨g, q1, q2⟩
      · exact Or.inl q
      · exact Or.inr ⟨g, by omega, q2⟩
theorem nt_or (G : Nat) (th : Nat → Int32) (h x : Int32) : nt G th h x = mI 1 ∨ ∃ g, g < G ∧ nt G th h x = nI g ∧ th g = h := by
  rcases ntF_or (th := th) (h := h) (x := x) G 0 (nI 0) with q | ⟨g, q1, q2⟩
  · exact Or.inl q
  · exact Or.inr ⟨g, by omega, q2⟩
theorem nt_at {G : Nat} {th : Nat → Int32} {h : Int32} {t : Nat} (hG : G ≤ 6) (ht : t < G) (e : th t = h) : nt G th h (nI (cnt th h t)) = nI t := by
  have key : ∀ j k, k + j = G → k ≤ t → ntF th h (nI (cnt th h t)) j k (nI (cnt th h k)) = nI t := by
    intro j
    induction j with
    | zero => intro k h1 h2; omega
    | succ j ih =>
      intro k h1 h2
      rw [ntF]
      by_cases e2 : k = t
      · rw [e2, if_pos e, if_pos rfl]
      · by_cases e3 : th k = h
        · have l := cnt_lt e3 (show k < t by omega)
          have l2 := cnt_le th h t
          rw [if_pos e3, if_neg (fun z => by have := nI_inj (by omega) (by omega) z; omega), nI_add, ← cnt_y e3]
          exact ih (k + 1) (by omega) (by omega)
        · rw [if_neg e3, ← cnt_n e3]
          exact ih (k + 1) (by omega) (by omega)
  exact key G 0 (by omega) (by omega)
theorem nthX_l {G : Nat} {th : Nat → Int32} {h x : Int32} (hG : G ≤ 6) : ∀ (j k n : Nat) (v : Int32), k + j = G → j < n → f_X5_nth_5 (nI G) th n h x v (nI k) = some (ntF th h x j k v) := by
  intro j
  induction j with
  | zero =>
    intro k n v hk h1
    obtain ⟨n, rfl⟩ : ∃ q, n = q + 1 := ⟨n - 1, by omega⟩
    simp (disch := omega) only [f_X5_nth_5, f_X5_nth, b_X5_nth_36, b_X5_nth_5, b_X5_nth_0, ntF, neg_nI, lit_nI, nI_add, pk_mul, pk_sub, nI_clamp, inB_nI, gd_true, bnd_def, nI_leI, nI_ltI, nI_eq, nI_mI, mI_nI, nle_T, nle_F, nlt_T, nlt_F, neq_T, neq_F, ↓reduceIte, Nat.add_zero, Nat.zero_add, Nat.mul_zero, Nat.reduceAdd, Nat.reduceMul, Nat.reduceSub, ob1_e, ob2_e, ob3_e, ob4_e, ob6_e]
  | succ j ih =>
    intro k n v hk h1
    obtain ⟨n, rfl⟩ : ∃ q, n = q + 1 := ⟨n - 1, by omega⟩
    by_cases e : th k = h
    · by_cases e2 : v = x
      · simp (disch := omega) only [f_X5_nth_5, f_X5_nth, b_X5_nth_36, b_X5_nth_5, b_X5_nth_0, ntF, e, e2, neg_nI, lit_nI, nI_add, pk_mul, pk_sub, nI_clamp, inB_nI, gd_true, bnd_def, nI_leI, nI_ltI, nI_eq, nI_mI, mI_nI, nle_T, nle_F, nlt_T, nlt_F, neq_T, neq_F, ↓reduceIte, Nat.add_zero, Nat.zero_add, Nat.mul_zero, Nat.reduceAdd, Nat.reduceMul, Nat.reduceSub, ob1_e, ob2_e, ob3_e, ob4_e, ob6_e]
      · simp (disch := omega) only [f_X5_nth_5, f_X5_nth, b_X5_nth_36, b_X5_nth_5, b_X5_nth_0, ntF, e, e2, ih (k + 1) n _ (by omega) (by omega), neg_nI, lit_nI, nI_add, pk_mul, pk_sub, nI_clamp, inB_nI, gd_true, bnd_def, nI_leI, nI_ltI, nI_eq, nI_mI, mI_nI, nle_T, nle_F, nlt_T, nlt_F, neq_T, neq_F, ↓reduceIte, Nat.add_zero, Nat.zero_add, Nat.mul_zero, Nat.reduceAdd, Nat.reduceMul, Nat.reduceSub, ob1_e, ob2_e, ob3_e, ob4_e, ob6_e]
    · simp (disch := omega) only [f_X5_nth_5, f_X5_nth, b_X5_nth_36, b_X5_nth_5, b_X5_nth_0, ntF, e, ih (k + 1) n _ (by omega) (by omega), neg_nI, lit_nI, nI_add, pk_mul, pk_sub, nI_clamp, inB_nI, gd_true, bnd_def, nI_leI, nI_ltI, nI_eq, nI_mI, mI_nI, nle_T, nle_F, nlt_T, nlt_F, neq_T, neq_F, ↓reduceIte, Nat.add_zero, Nat.zero_add, Nat.mul_zero, Nat.reduceAdd, Nat.reduceMul, Nat.reduceSub, ob1_e, ob2_e, ob3_e, ob4_e, ob6_e]
theorem nthY_l {G : Nat} {th mg : Nat → Int32} {h x : Int32} (hG : G ≤ 6) (hh : ∀ g, g < G → mg (4 * g) = th g) : ∀ (j k n : Nat) (v : Int32), k + j = G → j < n → f_X12_gloveOf_5 (nI G) mg n h x v (nI k) = some (ntF th h x j k v) := by
  intro j
  induction j with
  | zero =>
    intro k n v hk h1
    obtain ⟨n, rfl⟩ : ∃ q, n = q + 1 := ⟨n - 1, by omega⟩
    simp (disch := omega) only [f_X12_gloveOf_5, f_X12_gloveOf, b_X12_gloveOf_36, b_X12_gloveOf_5, b_X12_gloveOf_0, ntF, neg_nI, lit_nI, nI_add, pk_mul, pk_sub, nI_clamp, inB_nI, gd_true, bnd_def, nI_leI, nI_ltI, nI_eq, nI_mI, mI_nI, nle_T, nle_F, nlt_T, nlt_F, neq_T, neq_F, ↓reduceIte, Nat.add_zero, Nat.zero_add, Nat.mul_zero, Nat.reduceAdd, Nat.reduceMul, Nat.reduceSub, ob1_e, ob2_e, ob3_e, ob4_e, ob6_e]
  | succ j ih =>
    intro k n v hk h1
    obtain ⟨n, rfl⟩ : ∃ q, n = q + 1 := ⟨n - 1, by omega⟩
    have g1 := hh k (by omega)
    by_cases e : th k = h
    · by_cases e2 : v = x
      · simp (disch := omega) only [f_X12_gloveOf_5, f_X12_gloveOf, b_X12_gloveOf_36, b_X12_gloveOf_5, b_X12_gloveOf_0, of_c, g1, ntF, e, e2, neg_nI, lit_nI, nI_add, pk_mul, pk_sub, nI_clamp, inB_nI, gd_true, bnd_def, nI_leI, nI_ltI, nI_eq, nI_mI, mI_nI, nle_T, nle_F, nlt_T, nlt_F, neq_T, neq_F, ↓reduceIte, Nat.add_zero, Nat.zero_add, Nat.mul_zero, Nat.reduceAdd, Nat.reduceMul, Nat.reduceSub, ob1_e, ob2_e, ob3_e, ob4_e, ob6_e]
      · simp (disch := omega) only [f_X12_gloveOf_5, f_X12_gloveOf, b_X12_gloveOf_36, b_X12_gloveOf_5, b_X12_gloveOf_0, of_c, g1, ntF, e, e2, ih (k + 1) n _ (by omega) (by omega), neg_nI, lit_nI, nI_add, pk_mul, pk_sub, nI_clamp, inB_nI, gd_true, bnd_def, nI_leI, nI_ltI, nI_eq, nI_mI, mI_nI, nle_T, nle_F, nlt_T, nlt_F, neq_T, neq_F, ↓reduceIte, Nat.add_zero, Nat.zero_add, Nat.mul_zero, Nat.reduceAdd, Nat.reduceMul, Nat.reduceSub, ob1_e, ob2_e, ob3_e, ob4_e, ob6_e]
    · simp (disch := omega) only [f_X12_gloveOf_5, f_X12_gloveOf, b_X12_gloveOf_36, b_X12_gloveOf_5, b_X12_gloveOf_0, of_c, g1, ntF, e, ih (k + 1) n _ (by omega) (by omega), neg_nI, lit_nI, nI_add, pk_mul, pk_sub, nI_clamp, inB_nI, gd_true, bnd_def, nI_leI, nI_ltI, nI_eq, nI_mI, mI_nI, nle_T, nle_F, nlt_T, nlt_F, neq_T, neq_F, ↓reduceIte, Nat.add_zero, Nat.zero_add, Nat.mul_zero, Nat.reduceAdd, Nat.reduceMul, Nat.reduceSub, ob1_e, ob2_e, ob3_e, ob4_e, ob6_e]
theorem nthX_c {G : Nat} {th : Nat → Int32} {h x : Int32} (hG : G ≤ 6) : f_X5_nth (nI G) th h x = some (nt G th h x) := nthX_l hG G 0 fu (nI 0) (by omega) (by have := fu_le; omega)
theorem nthY_c {G : Nat} {th mg : Nat → Int32} {h x : Int32} (hG : G ≤ 6) (hh : ∀ g, g < G → mg (4 * g) = th g) : f_X12_gloveOf (nI G) mg h x = some (nt G th h x) := nthY_l hG hh G 0 fu (nI 0) (by omega) (by have := fu_le; omega)
theorem sizeX_l {G : Nat} {th : Nat → Int32} {h : Int32} (hG : G ≤ 6) : ∀ (j k n : Nat), k + j = G → j < n → f_X5_sizeOf_4 (nI G) th n h (nI (cnt th h k)) (nI k) = some (nI (cnt th h G)) := by
  intro j
  induction j with
  | zero =>
    intro k n hk h1
    obtain ⟨n, rfl⟩ : ∃ q, n = q + 1 := ⟨n - 1, by omega⟩
    have : k = G := by omega
    subst this
    simp (disch := omega) only [f_X5_sizeOf_4, f_X5_sizeOf, b_X5_sizeOf_25, b_X5_sizeOf_4, b_X5_sizeOf_0, neg_nI, lit_nI, nI_add, pk_mul, pk_sub, nI_clamp, inB_nI, gd_true, bnd_def, nI_leI, nI_ltI, nI_eq, nI_mI, mI_nI, nle_T, nle_F, nlt_T, nlt_F, neq_T, neq_F, ↓reduceIte, Nat.add_zero, Nat.zero_add, Nat.mul_zero, Nat.reduceAdd, Nat.reduceMul, Nat.reduceSub, ob1_e, ob2_e, ob3_e, ob4_e, ob6_e]
  | succ j ih =>
    intro k n hk h1
    obtain ⟨n, rfl⟩ : ∃ q, n = q + 1 := ⟨n - 1, by omega⟩
    have i1 := ih (k + 1) n (by omega) (by omega)
    by_cases e : th k = h
    · rw [cnt_y e] at i1
      simp (disch := omega) only [f_X5_sizeOf_4, f_X5_sizeOf, b_X5_sizeOf_25, b_X5_sizeOf_4, b_X5_sizeOf_0, e, i1, neg_nI, lit_nI, nI_add, pk_mul, pk_sub, nI_clamp, inB_nI, gd_true, bnd_def, nI_leI, nI_ltI, nI_eq, nI_mI, mI_nI, nle_T, nle_F, nlt_T, nlt_F, neq_T, neq_F, ↓reduceIte, Nat.add_zero, Nat.zero_add, Nat.mul_zero, Nat.reduceAdd, Nat.reduceMul, Nat.reduceSub, ob1_e, ob2_e, ob3_e, ob4_e, ob6_e]
    · rw [cnt_n e] at i1
      simp (disch := omega) only [f_X5_sizeOf_4, f_X5_sizeOf, b_X5_sizeOf_25, b_X5_sizeOf_4, b_X5_sizeOf_0, e, i1, neg_nI, lit_nI, nI_add, pk_mul, pk_sub, nI_clamp, inB_nI, gd_true, bnd_def, nI_leI, nI_ltI, nI_eq, nI_mI, mI_nI, nle_T, nle_F, nlt_T, nlt_F, neq_T, neq_F, ↓reduceIte, Nat.add_zero, Nat.zero_add, Nat.mul_zero, Nat.reduceAdd, Nat.reduceMul, Nat.reduceSub, ob1_e, ob2_e, ob3_e, ob4_e, ob6_e]
theorem sizeY_l {G : Nat} {th mg : Nat → Int32} {h : Int32} (hG : G ≤ 6) (hh : ∀ g, g < G → mg (4 * g) = th g) : ∀ (j k n : Nat), k + j = G → j < n → f_X12_manyOf_4 (nI G) mg n h (nI (cnt th h k)) (nI k) = some (nI (cnt th h G)) := by
  intro j
  induction j with
  | zero =>
    intro k n hk h1
    obtain ⟨n, rfl⟩ : ∃ q, n = q + 1 := ⟨n - 1, by omega⟩
    have : k = G := by omega
    subst this
    simp (disch := omega) only [f_X12_manyOf_4, f_X12_manyOf, b_X12_manyOf_28, b_X12_manyOf_4, b_X12_manyOf_0, neg_nI, lit_nI, nI_add, pk_mul, pk_sub, nI_clamp, inB_nI, gd_true, bnd_def, nI_leI, nI_ltI, nI_eq, nI_mI, mI_nI, nle_T, nle_F, nlt_T, nlt_F, neq_T, neq_F, ↓reduceIte, Nat.add_zero, Nat.zero_add, Nat.mul_zero, Nat.reduceAdd, Nat.reduceMul, Nat.reduceSub, ob1_e, ob2_e, ob3_e, ob4_e, ob6_e]
  | succ j ih =>
    intro k n hk h1
    obtain ⟨n, rfl⟩ : ∃ q, n = q + 1 := ⟨n - 1, by omega⟩
    have i1 := ih (k + 1) n (by omega) (by omega)
    have g1 := hh k (by omega)
    by_cases e : th k = h
    · rw [cnt_y e] at i1
      simp (disch := omega) only [f_X12_manyOf_4, f_X12_manyOf, b_X12_manyOf_28, b_X12_manyOf_4, b_X12_manyOf_0, of_c, g1, e, i1, neg_nI, lit_nI, nI_add, pk_mul, pk_sub, nI_clamp, inB_nI, gd_true, bnd_def, nI_leI, nI_ltI, nI_eq, nI_mI, mI_nI, nle_T, nle_F, nlt_T, nlt_F, neq_T, neq_F, ↓reduceIte, Nat.add_zero, Nat.zero_add, Nat.mul_zero, Nat.reduceAdd, Nat.reduceMul, Nat.reduceSub, ob1_e, ob2_e, ob3_e, ob4_e, ob6_e]
    · rw [cnt_n e] at i1
      simp (disch := omega) only [f_X12_manyOf_4, f_X12_manyOf, b_X12_manyOf_28, b_X12_manyOf_4, b_X12_manyOf_0, of_c, g1, e, i1, neg_nI, lit_nI, nI_add, pk_mul, pk_sub, nI_clamp, inB_nI, gd_true, bnd_def, nI_leI, nI_ltI, nI_eq, nI_mI, mI_nI, nle_T, nle_F, nlt_T, nlt_F, neq_T, neq_F, ↓reduceIte, Nat.add_zero, Nat.zero_add, Nat.mul_zero, Nat.reduceAdd, Nat.reduceMul, Nat.reduceSub, ob1_e, ob2_e, ob3_e, ob4_e, ob6_e]
theorem sizeX_c {G : Nat} {th : Nat → Int32} {h : Int32} (hG : G ≤ 6) : f_X5_sizeOf (nI G) th h = some (nI (cnt th h G)) := sizeX_l hG G 0 fu (by omega) (by have := fu_le; omega)
theorem sizeY_c {G : Nat} {th mg : Nat → Int32} {h : Int32} (hG : G ≤ 6) (hh : ∀ g, g < G → mg (4 * g) = th g) : f_X12_manyOf (nI G) mg h = some (nI (cnt th h G)) := sizeY_l hG hh G 0 fu (by omega) (by have := fu_le; omega)
/-! what a house has -/
theorem rv_comm {R : R6} {ta c : Nat → Int32} {g o : Nat} {w d : Int32} : rv R ta c g o w d = rv R ta c o g w d := by
  unfold rv
  rw [Int32.add_comm (c (36 + g)), Int32.add_comm (c (42 + g))]
  congr 1
  by_cases e : ta g = ta o
  · rw [if_pos e, if_pos e.symm]
  · rw [if_neg e, if_neg (fun z => e z.symm)]
/-- a glove's number, or none -/
def gx : Option Nat → Int32
  | some g => nI g
  | none => mI 1
def ga (R : R6) (ta c : Nat → Int32) : Option Nat → Option Nat → Int32
  | none, _ => mI 20
  | some _, none => nI 0
  | some g, some o => rv R ta c g o (c (pl g o)) (c 68) - c (36 + g) / nI 3
theorem nt_gx (G : Nat) (th : Nat → Int32) (h x : Int32) : ∃ z, nt G th h x = gx z ∧ ∀ g, z = some g → g < G ∧ th g = h := by
  rcases nt_or G th h x with q | ⟨g, q1, q2, q3⟩
  · exact ⟨none, q, fun g z => by cases z⟩
  · refine ⟨some g, q2, fun g' z => ?_⟩
    cases z
    exact ⟨q1, q3⟩
theorem hasGlove_m {G : Nat} : f_X5_hasGlove (nI G) (mI 1) = some (nI 0) := by
  have h : mI 1 < nI 0 := by decide
  simp (disch := omega) only [f_X5_hasGlove, b_X5_hasGlove_0, h, neg_nI, lit_nI, nI_add, pk_mul, pk_sub, nI_clamp, inB_nI, gd_true, bnd_def, nI_leI, nI_ltI, nI_eq, nI_mI, mI_nI, nle_T, nle_F, nlt_T, nlt_F, neq_T, neq_F, ↓reduceIte, Nat.add_zero, Nat.zero_add, Nat.mul_zero, Nat.reduceAdd, Nat.reduceMul, Nat.reduceSub, ob1_e, ob2_e, ob3_e, ob4_e, ob6_e]
section GA
variable {R : R6} {lh : Int32} {ll l0 l1 l2 l3 : Nat → Int32} {mh : Int32} {mc mv mk mt ms mu : Nat → Int32}
variable {G M : Nat} {th ta mg c m : Nat → Int32}
theorem gains_c (hX : RiseX R lh ll l0 l1 l2 l3) (hG : G ≤ 6) (z w : Option Nat) (hz : ∀ g, z = some g → g < G) (hw : ∀ g, w = some g → g < G) (lt st : Nat → Int32) : ∃ lt' st', f_X9_gains (nI G) ta lh ll l0 l1 l2 l3 c lt st (gx z) (gx w) = some (ga R ta c z w, lt', st') := by
  cases z with
  | none => exact ⟨lt, st, by simp (disch := omega) only [f_X9_gains, b_X9_gains_0, gx, ga, hasGlove_m, neg_nI, lit_nI, nI_add, pk_mul, pk_sub, nI_clamp, inB_nI, gd_true, bnd_def, nI_leI, nI_ltI, nI_eq, nI_mI, mI_nI, nle_T, nle_F, nlt_T, nlt_F, neq_T, neq_F, ↓reduceIte, Nat.add_zero, Nat.zero_add, Nat.mul_zero, Nat.reduceAdd, Nat.reduceMul, Nat.reduceSub, ob1_e, ob2_e, ob3_e, ob4_e, ob6_e]⟩
  | some g =>
    have hg := hz g rfl
    cases w with
    | none => exact ⟨lt, st, by simp (disch := omega) only [f_X9_gains, b_X9_gains_0, gx, ga, hasGlove_m, hasGlove_y, neg_nI, lit_nI, nI_add, pk_mul, pk_sub, nI_clamp, inB_nI, gd_true, bnd_def, nI_leI, nI_ltI, nI_eq, nI_mI, mI_nI, nle_T, nle_F, nlt_T, nlt_F, neq_T, neq_F, ↓reduceIte, Nat.add_zero, Nat.zero_add, Nat.mul_zero, Nat.reduceAdd, Nat.reduceMul, Nat.reduceSub, ob1_e, ob2_e, ob3_e, ob4_e, ob6_e]⟩
    | some o =>
      have ho := hw o rfl
      obtain ⟨lt', st', e⟩ := riseOf_c hX (ta := ta) (c := c) (lt := lt) (st := st) (g := g) (o := o) ⟨by omega, by omega⟩
      exact ⟨lt', st', by simp (disch := omega) only [f_X9_gains, b_X9_gains_0, gx, ga, hasGlove_y, free_c, e, neg_nI, lit_nI, nI_add, pk_mul, pk_sub, nI_clamp, inB_nI, gd_true, bnd_def, nI_leI, nI_ltI, nI_eq, nI_mI, mI_nI, nle_T, nle_F, nlt_T, nlt_F, neq_T, neq_F, ↓reduceIte, Nat.add_zero, Nat.zero_add, Nat.mul_zero, Nat.reduceAdd, Nat.reduceMul, Nat.reduceSub, ob1_e, ob2_e, ob3_e, ob4_e, ob6_e]⟩
theorem gameOf_c (hY : RiseY R mh mc mv mk mt ms mu) (hG : G ≤ 6) (hh : ∀ g, g < G → mg (4 * g) = th g) (ha : ∀ g, g < G → mg (4 * g + 3) = ta g) (hN : RN G M c m) {x y : Int32} {z w : Option Nat} (ez : nt G th (nI 0) x = gx z) (ew : nt G th (nI 1) y = gx w) (hz : ∀ g, z = some g → g < G) (hw : ∀ g, w = some g → g < G) (k : Nat) (hk : k ≤ 1) (lt st : Nat → Int32) : ∃ lt' st', f_X12_gameOf (nI G) mh mc mv mk mt ms mu mg m lt st x y (nI k) = some (if k = 0 then ga R ta c z w else ga R ta c w z, lt', st') := by
  have n0 := nthY_c (th := th) (mg := mg) (h := nI 0) (x := x) hG hh
  have n1 := nthY_c (th := th) (mg := mg) (h := nI 1) (x := y) hG hh
  rw [ez] at n0
  rw [ew] at n1
  cases z with
  | none =>
    cases w with
    | none =>
      rcases (show k = 0 ∨ k = 1 by omega) with rfl | rfl <;> exact ⟨lt, st, by simp (disch := omega) only [f_X12_gameOf, b_X12_gameOf_50, b_X12_gameOf_27, b_X12_gameOf_0, n0, n1, gx, ga, neg_nI, lit_nI, nI_add, pk_mul, pk_sub, nI_clamp, inB_nI, gd_true, bnd_def, nI_leI, nI_ltI, nI_eq, nI_mI, mI_nI, nle_T, nle_F, nlt_T, nlt_F, neq_T, neq_F, ↓reduceIte, Nat.add_zero, Nat.zero_add, Nat.mul_zero, Nat.reduceAdd, Nat.reduceMul, Nat.reduceSub, ob1_e, ob2_e, ob3_e, ob4_e, ob6_e]⟩
    | some o =>
      have ho := hw o rfl
      rcases (show k = 0 ∨ k = 1 by omega) with rfl | rfl <;> exact ⟨lt, st, by simp (disch := omega) only [f_X12_gameOf, b_X12_gameOf_50, b_X12_gameOf_27, b_X12_gameOf_0, n0, n1, gx, ga, neg_nI, lit_nI, nI_add, pk_mul, pk_sub, nI_clamp, inB_nI, gd_true, bnd_def, nI_leI, nI_ltI, nI_eq, nI_mI, mI_nI, nle_T, nle_F, nlt_T, nlt_F, neq_T, neq_F, ↓reduceIte, Nat.add_zero, Nat.zero_add, Nat.mul_zero, Nat.reduceAdd, Nat.reduceMul, Nat.reduceSub, ob1_e, ob2_e, ob3_e, ob4_e, ob6_e]⟩
  | some g =>
    have hg := hz g rfl
    cases w with
    | none =>
      rcases (show k = 0 ∨ k = 1 by omega) with rfl | rfl <;> exact ⟨lt, st, by simp (disch := omega) only [f_X12_gameOf, b_X12_gameOf_50, b_X12_gameOf_27, b_X12_gameOf_0, n0, n1, gx, ga, neg_nI, lit_nI, nI_add, pk_mul, pk_sub, nI_clamp, inB_nI, gd_true, bnd_def, nI_leI, nI_ltI, nI_eq, nI_mI, mI_nI, nle_T, nle_F, nlt_T, nlt_F, neq_T, neq_F, ↓reduceIte, Nat.add_zero, Nat.zero_add, Nat.mul_zero, Nat.reduceAdd, Nat.reduceMul, Nat.reduceSub, ob1_e, ob2_e, ob3_e, ob4_e, ob6_e]⟩
    | some o =>
      have ho := hw o rfl
      obtain ⟨lt', st', e⟩ := riseOfY_c hY (mg := mg) (m := m) (lt := lt) (st := st) (g := g) (o := o) ⟨by omega, by omega⟩
      have hp := pl_lt (a := g) (b := o) ⟨by omega, by omega⟩
      rw [rv_cong hN ha ⟨hg, ho, hG⟩, hN (pl g o) (by omega), hN 68 (by omega)] at e
      have f1 : m (36 + g) = c (36 + g) := hN _ (by omega)
      have f2 : m (36 + o) = c (36 + o) := hN _ (by omega)
      rcases (show k = 0 ∨ k = 1 by omega) with rfl | rfl
      · exact ⟨lt', st', by simp (disch := omega) only [f_X12_gameOf, b_X12_gameOf_50, b_X12_gameOf_27, b_X12_gameOf_0, n0, n1, gx, ga, e, f1, neg_nI, lit_nI, nI_add, pk_mul, pk_sub, nI_clamp, inB_nI, gd_true, bnd_def, nI_leI, nI_ltI, nI_eq, nI_mI, mI_nI, nle_T, nle_F, nlt_T, nlt_F, neq_T, neq_F, ↓reduceIte, Nat.add_zero, Nat.zero_add, Nat.mul_zero, Nat.reduceAdd, Nat.reduceMul, Nat.reduceSub, ob1_e, ob2_e, ob3_e, ob4_e, ob6_e]⟩
      · refine ⟨lt', st', ?_⟩
        have e2 : ga R ta c (some o) (some g) = rv R ta c g o (c (pl g o)) (c 68) - c (36 + o) / nI 3 := by rw [ga, rv_comm, pl_comm]
        rw [if_neg (by omega), e2]
        simp (disch := omega) only [f_X12_gameOf, b_X12_gameOf_50, b_X12_gameOf_27, b_X12_gameOf_0, n0, n1, gx, e, f2, neg_nI, lit_nI, nI_add, pk_mul, pk_sub, nI_clamp, inB_nI, gd_true, bnd_def, nI_leI, nI_ltI, nI_eq, nI_mI, mI_nI, nle_T, nle_F, nlt_T, nlt_F, neq_T, neq_F, ↓reduceIte, Nat.add_zero, Nat.zero_add, Nat.mul_zero, Nat.reduceAdd, Nat.reduceMul, Nat.reduceSub, ob1_e, ob2_e, ob3_e, ob4_e, ob6_e]
theorem s_game (hX : RiseX R lh ll l0 l1 l2 l3) (hY : RiseY R mh mc mv mk mt ms mu) (hG : G ≤ 6) (hh : ∀ g, g < G → mg (4 * g) = th g) (ha : ∀ g, g < G → mg (4 * g + 3) = ta g) (hN : RN G M c m) (lt st lt2 st2 : Nat → Int32) (x y v : Int32) : ∃ r lt' st' lt2' st2', f_X11_game (nI G) th ta lh ll l0 l1 l2 l3 c lt st x y v = some (r, lt', st') ∧ f_X12_game (nI G) mh mc mv mk mt ms mu mg m lt2 st2 x y v = some (r, lt2', st2') := by
  by_cases g0 : G = 0
  · refine ⟨mI 1000000, lt, st, lt2, st2, ?_, ?_⟩
    · simp (disch := omega) only [f_X11_game, b_X11_game_34, b_X11_game_0, noPeace_y g0, neg_nI, lit_nI, nI_add, pk_mul, pk_sub, nI_clamp, inB_nI, gd_true, bnd_def, nI_leI, nI_ltI, nI_eq, nI_mI, mI_nI, nle_T, nle_F, nlt_T, nlt_F, neq_T, neq_F, ↓reduceIte, Nat.add_zero, Nat.zero_add, Nat.mul_zero, Nat.reduceAdd, Nat.reduceMul, Nat.reduceSub, ob1_e, ob2_e, ob3_e, ob4_e, ob6_e]
    · simp (disch := omega) only [f_X12_game, b_X12_game_34, b_X12_game_0, neg_nI, lit_nI, nI_add, pk_mul, pk_sub, nI_clamp, inB_nI, gd_true, bnd_def, nI_leI, nI_ltI, nI_eq, nI_mI, mI_nI, nle_T, nle_F, nlt_T, nlt_F, neq_T, neq_F, ↓reduceIte, Nat.add_zero, Nat.zero_add, Nat.mul_zero, Nat.reduceAdd, Nat.reduceMul, Nat.reduceSub, ob1_e, ob2_e, ob3_e, ob4_e, ob6_e]
  · rcases rng x 4 (by omega) with ⟨i, hi, rfl⟩ | k0 | ⟨k0, k1, k2⟩
    · rcases rng y 4 (by omega) with ⟨j, hj, rfl⟩ | k0 | ⟨k0, k1, k2⟩
      · rcases rng v 1 (by omega) with ⟨k, hk, rfl⟩ | k0 | ⟨k0, k1, k2⟩
        · obtain ⟨z, ez, hz⟩ := nt_gx G th (nI 0) (nI i)
          obtain ⟨w, ew, hw⟩ := nt_gx G th (nI 1) (nI j)
          obtain ⟨lt2', st2', e2⟩ := gameOf_c hY hG hh ha hN ez ew (fun g q => (hz g q).1) (fun g q => (hw g q).1) k hk lt2 st2
          have n0 := nthX_c (th := th) (h := nI 0) (x := nI i) hG
          have n1 := nthX_c (th := th) (h := nI 1) (x := nI j) hG
          rw [ez] at n0
          rw [ew] at n1
          rcases (show k = 0 ∨ k = 1 by omega) with rfl | rfl
          · obtain ⟨lt', st', e1⟩ := gains_c hX hG (ta := ta) (c := c) z w (fun g q => (hz g q).1) (fun g q => (hw g q).1) lt st
            refine ⟨ga R ta c z w, lt', st', lt2', st2', ?_, ?_⟩
            · simp (disch := omega) only [f_X11_game, b_X11_game_34, b_X11_game_0, noPeace_n, n0, n1, e1, neg_nI, lit_nI, nI_add, pk_mul, pk_sub, nI_clamp, inB_nI, gd_true, bnd_def, nI_leI, nI_ltI, nI_eq, nI_mI, mI_nI, nle_T, nle_F, nlt_T, nlt_F, neq_T, neq_F, ↓reduceIte, Nat.add_zero, Nat.zero_add, Nat.mul_zero, Nat.reduceAdd, Nat.reduceMul, Nat.reduceSub, ob1_e, ob2_e, ob3_e, ob4_e, ob6_e]
            · rw [if_pos rfl] at e2
              simp (disch := omega) only [f_X12_game, b_X12_game_34, b_X12_game_0, in_c, e2, neg_nI, lit_nI, nI_add, pk_mul, pk_sub, nI_clamp, inB_nI, gd_true, bnd_def, nI_leI, nI_ltI, nI_eq, nI_mI, mI_nI, nle_T, nle_F, nlt_T, nlt_F, neq_T, neq_F, ↓reduceIte, Nat.add_zero, Nat.zero_add, Nat.mul_zero, Nat.reduceAdd, Nat.reduceMul, Nat.reduceSub, ob1_e, ob2_e, ob3_e, ob4_e, ob6_e]
          · obtain ⟨lt', st', e1⟩ := gains_c hX hG (ta := ta) (c := c) w z (fun g q => (hw g q).1) (fun g q => (hz g q).1) lt st
            refine ⟨ga R ta c w z, lt', st', lt2', st2', ?_, ?_⟩
            · simp (disch := omega) only [f_X11_game, b_X11_game_34, b_X11_game_0, noPeace_n, n0, n1, e1, neg_nI, lit_nI, nI_add, pk_mul, pk_sub, nI_clamp, inB_nI, gd_true, bnd_def, nI_leI, nI_ltI, nI_eq, nI_mI, mI_nI, nle_T, nle_F, nlt_T, nlt_F, neq_T, neq_F, ↓reduceIte, Nat.add_zero, Nat.zero_add, Nat.mul_zero, Nat.reduceAdd, Nat.reduceMul, Nat.reduceSub, ob1_e, ob2_e, ob3_e, ob4_e, ob6_e]
            · rw [if_neg (by omega)] at e2
              simp (disch := omega) only [f_X12_game, b_X12_game_34, b_X12_game_0, in_c, e2, neg_nI, lit_nI, nI_add, pk_mul, pk_sub, nI_clamp, inB_nI, gd_true, bnd_def, nI_leI, nI_ltI, nI_eq, nI_mI, mI_nI, nle_T, nle_F, nlt_T, nlt_F, neq_T, neq_F, ↓reduceIte, Nat.add_zero, Nat.zero_add, Nat.mul_zero, Nat.reduceAdd, Nat.reduceMul, Nat.reduceSub, ob1_e, ob2_e, ob3_e, ob4_e, ob6_e]
        · refine ⟨mI 1000000, lt, st, lt2, st2, ?_, ?_⟩
          · simp (disch := omega) only [f_X11_game, b_X11_game_34, b_X11_game_0, noPeace_n, k0, neg_nI, lit_nI, nI_add, pk_mul, pk_sub, nI_clamp, inB_nI, gd_true, bnd_def, nI_leI, nI_ltI, nI_eq, nI_mI, mI_nI, nle_T, nle_F, nlt_T, nlt_F, neq_T, neq_F, ↓reduceIte, Nat.add_zero, Nat.zero_add, Nat.mul_zero, Nat.reduceAdd, Nat.reduceMul, Nat.reduceSub, ob1_e, ob2_e, ob3_e, ob4_e, ob6_e]
          · simp (disch := omega) only [f_X12_game, b_X12_game_34, b_X12_game_0, in_c, in_lo (hi := nI 1) k0, neg_nI, lit_nI, nI_add, pk_mul, pk_sub, nI_clamp, inB_nI, gd_true, bnd_def, nI_leI, nI_ltI, nI_eq, nI_mI, mI_nI, nle_T, nle_F, nlt_T, nlt_F, neq_T, neq_F, ↓reduceIte, Nat.add_zero, Nat.zero_add, Nat.mul_zero, Nat.reduceAdd, Nat.reduceMul, Nat.reduceSub, ob1_e, ob2_e, ob3_e, ob4_e, ob6_e]
        · refine ⟨mI 1000000, lt, st, lt2, st2, ?_, ?_⟩
          · simp (disch := omega) only [f_X11_game, b_X11_game_34, b_X11_game_0, noPeace_n, k0, k2, neg_nI, lit_nI, nI_add, pk_mul, pk_sub, nI_clamp, inB_nI, gd_true, bnd_def, nI_leI, nI_ltI, nI_eq, nI_mI, mI_nI, nle_T, nle_F, nlt_T, nlt_F, neq_T, neq_F, ↓reduceIte, Nat.add_zero, Nat.zero_add, Nat.mul_zero, Nat.reduceAdd, Nat.reduceMul, Nat.reduceSub, ob1_e, ob2_e, ob3_e, ob4_e, ob6_e]
          · simp (disch := omega) only [f_X12_game, b_X12_game_34, b_X12_game_0, in_c, in_hi (lo := nI 0) k1, neg_nI, lit_nI, nI_add, pk_mul, pk_sub, nI_clamp, inB_nI, gd_true, bnd_def, nI_leI, nI_ltI, nI_eq, nI_mI, mI_nI, nle_T, nle_F, nlt_T, nlt_F, neq_T, neq_F, ↓reduceIte, Nat.add_zero, Nat.zero_add, Nat.mul_zero, Nat.reduceAdd, Nat.reduceMul, Nat.reduceSub, ob1_e, ob2_e, ob3_e, ob4_e, ob6_e]
      · refine ⟨mI 1000000, lt, st, lt2, st2, ?_, ?_⟩
        · simp (disch := omega) only [f_X11_game, b_X11_game_34, b_X11_game_0, noPeace_n, k0, neg_nI, lit_nI, nI_add, pk_mul, pk_sub, nI_clamp, inB_nI, gd_true, bnd_def, nI_leI, nI_ltI, nI_eq, nI_mI, mI_nI, nle_T, nle_F, nlt_T, nlt_F, neq_T, neq_F, ↓reduceIte, Nat.add_zero, Nat.zero_add, Nat.mul_zero, Nat.reduceAdd, Nat.reduceMul, Nat.reduceSub, ob1_e, ob2_e, ob3_e, ob4_e, ob6_e]
        · simp (disch := omega) only [f_X12_game, b_X12_game_34, b_X12_game_0, in_c, in_lo (hi := nI 4) k0, neg_nI, lit_nI, nI_add, pk_mul, pk_sub, nI_clamp, inB_nI, gd_true, bnd_def, nI_leI, nI_ltI, nI_eq, nI_mI, mI_nI, nle_T, nle_F, nlt_T, nlt_F, neq_T, neq_F, ↓reduceIte, Nat.add_zero, Nat.zero_add, Nat.mul_zero, Nat.reduceAdd, Nat.reduceMul, Nat.reduceSub, ob1_e, ob2_e, ob3_e, ob4_e, ob6_e]
      · refine ⟨mI 1000000, lt, st, lt2, st2, ?_, ?_⟩
        · simp (disch := omega) only [f_X11_game, b_X11_game_34, b_X11_game_0, noPeace_n, k0, k1, neg_nI, lit_nI, nI_add, pk_mul, pk_sub, nI_clamp, inB_nI, gd_true, bnd_def, nI_leI, nI_ltI, nI_eq, nI_mI, mI_nI, nle_T, nle_F, nlt_T, nlt_F, neq_T, neq_F, ↓reduceIte, Nat.add_zero, Nat.zero_add, Nat.mul_zero, Nat.reduceAdd, Nat.reduceMul, Nat.reduceSub, ob1_e, ob2_e, ob3_e, ob4_e, ob6_e]
        · simp (disch := omega) only [f_X12_game, b_X12_game_34, b_X12_game_0, in_c, in_hi (lo := nI 0) k1, neg_nI, lit_nI, nI_add, pk_mul, pk_sub, nI_clamp, inB_nI, gd_true, bnd_def, nI_leI, nI_ltI, nI_eq, nI_mI, mI_nI, nle_T, nle_F, nlt_T, nlt_F, neq_T, neq_F, ↓reduceIte, Nat.add_zero, Nat.zero_add, Nat.mul_zero, Nat.reduceAdd, Nat.reduceMul, Nat.reduceSub, ob1_e, ob2_e, ob3_e, ob4_e, ob6_e]
    · refine ⟨mI 1000000, lt, st, lt2, st2, ?_, ?_⟩
      · simp (disch := omega) only [f_X11_game, b_X11_game_34, b_X11_game_0, noPeace_n, k0, neg_nI, lit_nI, nI_add, pk_mul, pk_sub, nI_clamp, inB_nI, gd_true, bnd_def, nI_leI, nI_ltI, nI_eq, nI_mI, mI_nI, nle_T, nle_F, nlt_T, nlt_F, neq_T, neq_F, ↓reduceIte, Nat.add_zero, Nat.zero_add, Nat.mul_zero, Nat.reduceAdd, Nat.reduceMul, Nat.reduceSub, ob1_e, ob2_e, ob3_e, ob4_e, ob6_e]
      · simp (disch := omega) only [f_X12_game, b_X12_game_34, b_X12_game_0, in_lo (hi := nI 4) k0, neg_nI, lit_nI, nI_add, pk_mul, pk_sub, nI_clamp, inB_nI, gd_true, bnd_def, nI_leI, nI_ltI, nI_eq, nI_mI, mI_nI, nle_T, nle_F, nlt_T, nlt_F, neq_T, neq_F, ↓reduceIte, Nat.add_zero, Nat.zero_add, Nat.mul_zero, Nat.reduceAdd, Nat.reduceMul, Nat.reduceSub, ob1_e, ob2_e, ob3_e, ob4_e, ob6_e]
    · refine ⟨mI 1000000, lt, st, lt2, st2, ?_, ?_⟩
      · simp (disch := omega) only [f_X11_game, b_X11_game_34, b_X11_game_0, noPeace_n, k0, k1, neg_nI, lit_nI, nI_add, pk_mul, pk_sub, nI_clamp, inB_nI, gd_true, bnd_def, nI_leI, nI_ltI, nI_eq, nI_mI, mI_nI, nle_T, nle_F, nlt_T, nlt_F, neq_T, neq_F, ↓reduceIte, Nat.add_zero, Nat.zero_add, Nat.mul_zero, Nat.reduceAdd, Nat.reduceMul, Nat.reduceSub, ob1_e, ob2_e, ob3_e, ob4_e, ob6_e]
      · simp (disch := omega) only [f_X12_game, b_X12_game_34, b_X12_game_0, in_hi (lo := nI 0) k1, neg_nI, lit_nI, nI_add, pk_mul, pk_sub, nI_clamp, inB_nI, gd_true, bnd_def, nI_leI, nI_ltI, nI_eq, nI_mI, mI_nI, nle_T, nle_F, nlt_T, nlt_F, neq_T, neq_F, ↓reduceIte, Nat.add_zero, Nat.zero_add, Nat.mul_zero, Nat.reduceAdd, Nat.reduceMul, Nat.reduceSub, ob1_e, ob2_e, ob3_e, ob4_e, ob6_e]
end GA
end
section
/-! what a house can be sure of; rests -/
theorem mn_le {x v : Int32} (h : v.toInt ≤ x.toInt) : mn x v = v := by
  show (if v < x then v else x) = v
  by_cases e : v < x
  · rw [if_pos e]
  · rw [if_neg e]
    rw [lt32] at e
    exact Int32.toInt_inj.mp (by omega)
theorem mx_le {x v : Int32} (h : x.toInt ≤ v.toInt) : mx x v = v := by
  show (if x < v then v else x) = v
  by_cases e : x < v
  · rw [if_pos e]
  · rw [if_neg e]
    rw [lt32] at e
    exact Int32.toInt_inj.mp (by omega)
def ib (v : Int32) : Prop := -12 ≤ v.toInt ∧ v.toInt ≤ 9
theorem ib_mn {x v : Int32} (h1 : ib x) (h2 : ib v) : ib (mn x v) := by
  show ib (if v < x then v else x)
  split <;> assumption
theorem ib_mx {x v : Int32} (h1 : ib x) (h2 : ib v) : ib (mx x v) := by
  show ib (if x < v then v else x)
  split <;> assumption
theorem ib_9 {v : Int32} (h : ib v) : mn (nI 9) v = v ∧ mn (nI 99) v = v := by
  have a1 : (nI 9).toInt = 9 := by decide
  have a2 : (nI 99).toInt = 99 := by decide
  have := h.2
  exact ⟨mn_le (by omega), mn_le (by omega)⟩
theorem ib_20 {v : Int32} (h : ib v) : mx (mI 20) v = v ∧ mx (mI 1000000) v = v := by
  have a1 : (mI 20).toInt = -20 := by decide
  have a2 : (mI 1000000).toInt = -1000000 := by decide
  have := h.1
  exact ⟨mx_le (by omega), mx_le (by omega)⟩
theorem ga_b {R : R6} {ta c : Nat → Int32} {G : Nat} {th : Nat → Int32} (hB : RiseB R) (hI : IV G th c) {g o : Nat} (hg : g < G) : ib (ga R ta c (some g) (some o)) := by
  obtain ⟨f, hf, ef⟩ := hI.2.1 g hg
  have hb : ∀ w d, -9 ≤ (rv R ta c g o w d).toInt ∧ (rv R ta c g o w d).toInt ≤ 9 := fun w d => hB _ _ _ _ _ _
  have h1 := hb (c (pl g o)) (c 68)
  have h2 : (nI (f / 3)).toInt = ((f / 3 : Nat) : Int) := nI_toInt (by omega)
  show ib (rv R ta c g o (c (pl g o)) (c 68) - c (36 + g) / nI 3)
  unfold ib
  rw [ef, pk_div (by omega) (by omega) (by omega), Int32.toInt_sub, h2, Int.bmod_eq_of_le (by omega) (by omega)]
  omega
theorem nt_some {th : Nat → Int32} {h : Int32} {x : Nat} : ∀ G, x < cnt th h G → ∃ g, g < G ∧ th g = h ∧ cnt th h g = x
  | 0, q => by simp [cnt] at q
  | G + 1, q => by
    by_cases e : th G = h
    · by_cases e2 : x = cnt th h G
      · exact ⟨G, by omega, e, e2.symm⟩
      · rw [cnt_y e] at q
        obtain ⟨g, a, b⟩ := nt_some G (show x < cnt th h G by omega)
        exact ⟨g, by omega, b⟩
    · rw [cnt_n e] at q
      obtain ⟨g, a, b⟩ := nt_some G q
      exact ⟨g, by omega, b⟩
section SU
variable {R : R6} {lh : Int32} {ll l0 l1 l2 l3 : Nat → Int32} {mh : Int32} {mc mv mk mt ms mu : Nat → Int32}
variable {G M : Nat} {th ta mg c m : Nat → Int32}
theorem least_l (hX : RiseX R lh ll l0 l1 l2 l3) (hY : RiseY R mh mc mv mk mt ms mu) (hB : RiseB R) (hG : G ≤ 6) (hh : ∀ g, g < G → mg (4 * g) = th g) (ha : ∀ g, g < G → mg (4 * g + 3) = ta g) (h01 : ∀ g, g < G → th g = nI 0 ∨ th g = nI 1) (hN : RN G M c m) (hI : IV G th c) {g h : Nat} (hg : g < G) (hle : h ≤ 1) (eg : th g = nI h) (hex : ∃ b, b < G ∧ th b = nI (1 - h)) : ∀ (j t n n' : Nat) (lt st lt2 st2 : Nat → Int32) (vx vy : Int32), t + j = G → j < n → j < n' → ((vx = vy ∧ ib vx) ∨ (vx = nI 9 ∧ vy = nI 99 ∧ ∀ s, s < t → ¬ th s = nI (1 - h))) → ∃ r lt' st' lt2' st2', f_X11_leastGain_5 (nI G) th ta lh ll l0 l1 l2 l3 c n lt st (nI g) vx (nI t) = some (r, lt', st') ∧ f_X12_leastOf_6 (nI G) mh mc mv mk mt ms mu mg m n' lt2 st2 (nI h) (nI (cnt th (nI h) g)) vy (nI (cnt th (nI (1 - h)) t)) = some (r, lt2', st2') ∧ ib r := by
  have hm : f_X12_manyOf (nI G) mg (nI 1 - nI h) = some (nI (cnt th (nI (1 - h)) G)) := by
    rw [pk_sub hle]
    exact sizeY_c hG hh
  have hcG := cnt_le th (nI (1 - h)) G
  intro j
  induction j with
  | zero =>
    intro t n n' lt st lt2 st2 vx vy ht h1 h2 hA
    obtain ⟨n, rfl⟩ : ∃ q, n = q + 1 := ⟨n - 1, by omega⟩
    obtain ⟨n', rfl⟩ : ∃ q, n' = q + 1 := ⟨n' - 1, by omega⟩
    have et : t = G := by omega
    subst et
    rcases hA with ⟨rfl, hb⟩ | ⟨-, -, hno⟩
    · refine ⟨vx, lt, st, lt2, st2, ?_, ?_, hb⟩
      · simp (disch := omega) only [f_X11_leastGain_5, f_X11_leastGain, b_X11_leastGain_42, b_X11_leastGain_5, b_X11_leastGain_0, neg_nI, lit_nI, nI_add, pk_mul, pk_sub, nI_clamp, inB_nI, gd_true, bnd_def, nI_leI, nI_ltI, nI_eq, nI_mI, mI_nI, nle_T, nle_F, nlt_T, nlt_F, neq_T, neq_F, ↓reduceIte, Nat.add_zero, Nat.zero_add, Nat.mul_zero, Nat.reduceAdd, Nat.reduceMul, Nat.reduceSub, ob1_e, ob2_e, ob3_e, ob4_e, ob6_e]
      · unfold f_X12_leastOf_6 b_X12_leastOf_6
        have hm' : f_X12_manyOf (nI t) mg ((1 : Int32) - nI h) = some (nI (cnt th (nI (1 - h)) t)) := hm
        rw [hm']
        simp (disch := omega) only [neg_nI, lit_nI, nI_add, pk_mul, pk_sub, nI_clamp, inB_nI, gd_true, bnd_def, nI_leI, nI_ltI, nI_eq, nI_mI, mI_nI, nle_T, nle_F, nlt_T, nlt_F, neq_T, neq_F, ↓reduceIte, Nat.add_zero, Nat.zero_add, Nat.mul_zero, Nat.reduceAdd, Nat.reduceMul, Nat.reduceSub, ob1_e, ob2_e, ob3_e, ob4_e, ob6_e]
    · obtain ⟨b, hb, eb⟩ := hex
      exact absurd eb (hno b hb)
  | succ j ih =>
    intro t n n' lt st lt2 st2 vx vy ht h1 h2 hA
    obtain ⟨n, rfl⟩ : ∃ q, n = q + 1 := ⟨n - 1, by omega⟩
    by_cases e : th t = nI (1 - h)
    · obtain ⟨n', rfl⟩ : ∃ q, n' = q + 1 := ⟨n' - 1, by omega⟩
      have hne : ¬ th g = th t := by
        rw [eg, e]
        intro z
        have := nI_inj (by omega) (by omega) z
        omega
      have hlt := cnt_lt e (show t < G by omega)
      obtain ⟨lt1, st1, x1⟩ := gains_c hX hG (ta := ta) (c := c) (some g) (some t) (fun q z => by cases z; exact hg) (fun q z => by cases z; omega) lt st
      have gb := ga_b (ta := ta) (o := t) hB hI hg
      have hmn : mn vx (ga R ta c (some g) (some t)) = mn vy (ga R ta c (some g) (some t)) ∧ ib (mn vx (ga R ta c (some g) (some t))) := by
        rcases hA with ⟨rfl, hb⟩ | ⟨rfl, rfl, -⟩
        · exact ⟨rfl, ib_mn hb gb⟩
        · rw [(ib_9 gb).1, (ib_9 gb).2]
          exact ⟨rfl, gb⟩
      have y1 : ∃ lt3 st3, f_X12_leastOf_6 (nI G) mh mc mv mk mt ms mu mg m (n' + 1) lt2 st2 (nI h) (nI (cnt th (nI h) g)) vy (nI (cnt th (nI (1 - h)) t)) = f_X12_leastOf_6 (nI G) mh mc mv mk mt ms mu mg m n' lt3 st3 (nI h) (nI (cnt th (nI h) g)) (mn vy (ga R ta c (some g) (some t))) (nI (cnt th (nI (1 - h)) t + 1)) := by
        have hm' : f_X12_manyOf (nI G) mg ((1 : Int32) - nI h) = some (nI (cnt th (nI (1 - h)) G)) := hm
        have hc2 := cnt_le th (nI h) g
        rcases (show h = 0 ∨ h = 1 by omega) with rfl | rfl
        · obtain ⟨lt3, st3, q⟩ := gameOf_c hY hG hh ha hN (x := nI (cnt th (nI 0) g)) (y := nI (cnt th (nI 1) t)) (z := some g) (w := some t) (nt_at hG hg eg) (nt_at hG (by omega) e) (fun q z => by cases z; exact hg) (fun q z => by cases z; omega) 0 (by omega) lt2 st2
          rw [if_pos rfl] at q
          have hlt' : cnt th (nI 1) t < cnt th (nI 1) G := hlt
          have hcG' : cnt th (nI 1) G ≤ G := hcG
          refine ⟨lt3, st3, ?_⟩
          rw [f_X12_leastOf_6, b_X12_leastOf_6, hm']
          simp (disch := omega) only [b_X12_leastOf_42, q, neg_nI, lit_nI, nI_add, pk_mul, pk_sub, nI_clamp, inB_nI, gd_true, bnd_def, nI_leI, nI_ltI, nI_eq, nI_mI, mI_nI, nle_T, nle_F, nlt_T, nlt_F, neq_T, neq_F, ↓reduceIte, Nat.add_zero, Nat.zero_add, Nat.mul_zero, Nat.reduceAdd, Nat.reduceMul, Nat.reduceSub, ob1_e, ob2_e, ob3_e, ob4_e, ob6_e]
        · obtain ⟨lt3, st3, q⟩ := gameOf_c hY hG hh ha hN (x := nI (cnt th (nI 0) t)) (y := nI (cnt th (nI 1) g)) (z := some t) (w := some g) (nt_at hG (by omega) e) (nt_at hG hg eg) (fun q z => by cases z; omega) (fun q z => by cases z; exact hg) 1 (by omega) lt2 st2
          rw [if_neg (by omega)] at q
          have hlt' : cnt th (nI 0) t < cnt th (nI 0) G := hlt
          have hcG' : cnt th (nI 0) G ≤ G := hcG
          refine ⟨lt3, st3, ?_⟩
          rw [f_X12_leastOf_6, b_X12_leastOf_6, hm']
          simp (disch := omega) only [b_X12_leastOf_42, q, neg_nI, lit_nI, nI_add, pk_mul, pk_sub, nI_clamp, inB_nI, gd_true, bnd_def, nI_leI, nI_ltI, nI_eq, nI_mI, mI_nI, nle_T, nle_F, nlt_T, nlt_F, neq_T, neq_F, ↓reduceIte, Nat.add_zero, Nat.zero_add, Nat.mul_zero, Nat.reduceAdd, Nat.reduceMul, Nat.reduceSub, ob1_e, ob2_e, ob3_e, ob4_e, ob6_e]
      obtain ⟨lt3, st3, y1⟩ := y1
      obtain ⟨r, lt', st', lt2', st2', e1, e2, e3⟩ := ih (t + 1) n n' lt1 st1 lt3 st3 (mn vx (ga R ta c (some g) (some t))) (mn vy (ga R ta c (some g) (some t))) (by omega) (by omega) (by omega) (Or.inl hmn)
      rw [cnt_y e] at e2
      refine ⟨r, lt', st', lt2', st2', ?_, ?_, e3⟩
      · rw [← e1]
        simp only [gx] at x1
        simp (disch := omega) only [f_X11_leastGain_5, f_X11_leastGain, b_X11_leastGain_42, b_X11_leastGain_5, b_X11_leastGain_0, unlike_c, hne, x1, neg_nI, lit_nI, nI_add, pk_mul, pk_sub, nI_clamp, inB_nI, gd_true, bnd_def, nI_leI, nI_ltI, nI_eq, nI_mI, mI_nI, nle_T, nle_F, nlt_T, nlt_F, neq_T, neq_F, ↓reduceIte, Nat.add_zero, Nat.zero_add, Nat.mul_zero, Nat.reduceAdd, Nat.reduceMul, Nat.reduceSub, ob1_e, ob2_e, ob3_e, ob4_e, ob6_e]
      · rw [← e2, ← y1]
    · have heq : th g = th t := by
        rw [eg]
        rcases (show h = 0 ∨ h = 1 by omega) with rfl | rfl
        · rcases h01 t (by omega) with z | z
          · exact z.symm
          · exact absurd z e
        · rcases h01 t (by omega) with z | z
          · exact absurd z e
          · exact z.symm
      obtain ⟨r, lt', st', lt2', st2', e1, e2, e3⟩ := ih (t + 1) n n' lt st lt2 st2 vx vy (by omega) (by omega) (by omega) (by
        rcases hA with q | ⟨q1, q2, q3⟩
        · exact Or.inl q
        · refine Or.inr ⟨q1, q2, fun s hs => ?_⟩
          by_cases es : s = t
          · rw [es]; exact e
          · exact q3 s (by omega))
      rw [cnt_n e] at e2
      refine ⟨r, lt', st', lt2', st2', ?_, e2, e3⟩
      rw [← e1]
      simp (disch := omega) only [f_X11_leastGain_5, f_X11_leastGain, b_X11_leastGain_42, b_X11_leastGain_5, b_X11_leastGain_0, unlike_c, heq, neg_nI, lit_nI, nI_add, pk_mul, pk_sub, nI_clamp, inB_nI, gd_true, bnd_def, nI_leI, nI_ltI, nI_eq, nI_mI, mI_nI, nle_T, nle_F, nlt_T, nlt_F, neq_T, neq_F, ↓reduceIte, Nat.add_zero, Nat.zero_add, Nat.mul_zero, Nat.reduceAdd, Nat.reduceMul, Nat.reduceSub, ob1_e, ob2_e, ob3_e, ob4_e, ob6_e]
theorem sure_l (hX : RiseX R lh ll l0 l1 l2 l3) (hY : RiseY R mh mc mv mk mt ms mu) (hB : RiseB R) (hG : G ≤ 6) (hh : ∀ g, g < G → mg (4 * g) = th g) (ha : ∀ g, g < G → mg (4 * g + 3) = ta g) (h01 : ∀ g, g < G → th g = nI 0 ∨ th g = nI 1) (hN : RN G M c m) (hI : IV G th c) {h : Nat} (hle : h ≤ 1) (hex1 : ∃ b, b < G ∧ th b = nI h) (hex : ∃ b, b < G ∧ th b = nI (1 - h)) : ∀ (j t n n' : Nat) (lt st lt2 st2 : Nat → Int32) (vx vy : Int32), t + j = G → j < n → j < n' → ((vx = vy ∧ ib vx) ∨ (vx = mI 20 ∧ vy = mI 1000000 ∧ ∀ s, s < t → ¬ th s = nI h)) → ∃ r lt' st' lt2' st2', f_X11_sure_25 (nI G) th ta lh ll l0 l1 l2 l3 c n lt st (nI h) vx (nI t) = some (r, lt', st') ∧ f_X12_sure_26 (nI G) mh mc mv mk mt ms mu mg m n' lt2 st2 (nI h) vy (nI (cnt th (nI h) t)) = some (r, lt2', st2') := by
  have hm := sizeY_c (th := th) (mg := mg) (h := nI h) hG hh
  have hcG := cnt_le th (nI h) G
  intro j
  induction j with
  | zero =>
    intro t n n' lt st lt2 st2 vx vy ht h1 h2 hA
    obtain ⟨n, rfl⟩ : ∃ q, n = q + 1 := ⟨n - 1, by omega⟩
    obtain ⟨n', rfl⟩ : ∃ q, n' = q + 1 := ⟨n' - 1, by omega⟩
    have et : t = G := by omega
    subst et
    rcases hA with ⟨rfl, hb⟩ | ⟨-, -, hno⟩
    · refine ⟨vx, lt, st, lt2, st2, ?_, ?_⟩
      · simp (disch := omega) only [f_X11_sure_25, f_X11_sure, b_X11_sure_16, b_X11_sure_59, b_X11_sure_25, b_X11_sure_0, neg_nI, lit_nI, nI_add, pk_mul, pk_sub, nI_clamp, inB_nI, gd_true, bnd_def, nI_leI, nI_ltI, nI_eq, nI_mI, mI_nI, nle_T, nle_F, nlt_T, nlt_F, neq_T, neq_F, ↓reduceIte, Nat.add_zero, Nat.zero_add, Nat.mul_zero, Nat.reduceAdd, Nat.reduceMul, Nat.reduceSub, ob1_e, ob2_e, ob3_e, ob4_e, ob6_e]
      · simp (disch := omega) only [f_X12_sure_26, f_X12_sure, b_X12_sure_16, b_X12_sure_26, b_X12_sure_0, hm, neg_nI, lit_nI, nI_add, pk_mul, pk_sub, nI_clamp, inB_nI, gd_true, bnd_def, nI_leI, nI_ltI, nI_eq, nI_mI, mI_nI, nle_T, nle_F, nlt_T, nlt_F, neq_T, neq_F, ↓reduceIte, Nat.add_zero, Nat.zero_add, Nat.mul_zero, Nat.reduceAdd, Nat.reduceMul, Nat.reduceSub, ob1_e, ob2_e, ob3_e, ob4_e, ob6_e]
    · obtain ⟨b, hb, eb⟩ := hex1
      exact absurd eb (hno b hb)
  | succ j ih =>
    intro t n n' lt st lt2 st2 vx vy ht h1 h2 hA
    obtain ⟨n, rfl⟩ : ∃ q, n = q + 1 := ⟨n - 1, by omega⟩
    by_cases e : th t = nI h
    · obtain ⟨n', rfl⟩ : ∃ q, n' = q + 1 := ⟨n' - 1, by omega⟩
      have hlt := cnt_lt e (show t < G by omega)
      obtain ⟨v, lt1, st1, lt3, st3, x1, y1, hv⟩ := least_l hX hY hB hG hh ha h01 hN hI (show t < G by omega) hle e hex G 0 fu fu lt st lt2 st2 (nI 9) (nI 99) (by omega) (by have := fu_le; omega) (by have := fu_le; omega) (Or.inr ⟨rfl, rfl, fun s hs => by omega⟩)
      have x1' : f_X11_leastGain (nI G) th ta lh ll l0 l1 l2 l3 c lt st (nI t) = some (v, lt1, st1) := x1
      have y1' : f_X12_leastOf (nI G) mh mc mv mk mt ms mu mg m lt2 st2 (nI h) (nI (cnt th (nI h) t)) = some (v, lt3, st3) := y1
      have hmx : mx vx v = mx vy v ∧ ib (mx vx v) := by
        rcases hA with ⟨rfl, hb⟩ | ⟨rfl, rfl, -⟩
        · exact ⟨rfl, ib_mx hb hv⟩
        · rw [(ib_20 hv).1, (ib_20 hv).2]
          exact ⟨rfl, hv⟩
      obtain ⟨r, lt', st', lt2', st2', e1, e2⟩ := ih (t + 1) n n' lt1 st1 lt3 st3 (mx vx v) (mx vy v) (by omega) (by omega) (by omega) (Or.inl hmx)
      rw [cnt_y e] at e2
      refine ⟨r, lt', st', lt2', st2', ?_, ?_⟩
      · rw [← e1]
        simp (disch := omega) only [f_X11_sure_25, f_X11_sure, b_X11_sure_16, b_X11_sure_59, b_X11_sure_25, b_X11_sure_0, e, x1', neg_nI, lit_nI, nI_add, pk_mul, pk_sub, nI_clamp, inB_nI, gd_true, bnd_def, nI_leI, nI_ltI, nI_eq, nI_mI, mI_nI, nle_T, nle_F, nlt_T, nlt_F, neq_T, neq_F, ↓reduceIte, Nat.add_zero, Nat.zero_add, Nat.mul_zero, Nat.reduceAdd, Nat.reduceMul, Nat.reduceSub, ob1_e, ob2_e, ob3_e, ob4_e, ob6_e]
      · rw [← e2]
        simp (disch := omega) only [f_X12_sure_26, f_X12_sure, b_X12_sure_16, b_X12_sure_26, b_X12_sure_0, hm, y1', neg_nI, lit_nI, nI_add, pk_mul, pk_sub, nI_clamp, inB_nI, gd_true, bnd_def, nI_leI, nI_ltI, nI_eq, nI_mI, mI_nI, nle_T, nle_F, nlt_T, nlt_F, neq_T, neq_F, ↓reduceIte, Nat.add_zero, Nat.zero_add, Nat.mul_zero, Nat.reduceAdd, Nat.reduceMul, Nat.reduceSub, ob1_e, ob2_e, ob3_e, ob4_e, ob6_e]
    · obtain ⟨r, lt', st', lt2', st2', e1, e2⟩ := ih (t + 1) n n' lt st lt2 st2 vx vy (by omega) (by omega) (by omega) (by
        rcases hA with q | ⟨q1, q2, q3⟩
        · exact Or.inl q
        · refine Or.inr ⟨q1, q2, fun s hs => ?_⟩
          by_cases es : s = t
          · rw [es]; exact e
          · exact q3 s (by omega))
      rw [cnt_n e] at e2
      refine ⟨r, lt', st', lt2', st2', ?_, e2⟩
      rw [← e1]
      simp (disch := omega) only [f_X11_sure_25, f_X11_sure, b_X11_sure_16, b_X11_sure_59, b_X11_sure_25, b_X11_sure_0, e, neg_nI, lit_nI, nI_add, pk_mul, pk_sub, nI_clamp, inB_nI, gd_true, bnd_def, nI_leI, nI_ltI, nI_eq, nI_mI, mI_nI, nle_T, nle_F, nlt_T, nlt_F, neq_T, neq_F, ↓reduceIte, Nat.add_zero, Nat.zero_add, Nat.mul_zero, Nat.reduceAdd, Nat.reduceMul, Nat.reduceSub, ob1_e, ob2_e, ob3_e, ob4_e, ob6_e]
theorem s_sure (hX : RiseX R lh ll l0 l1 l2 l3) (hY : RiseY R mh mc mv mk mt ms mu) (hB : RiseB R) (hG : G ≤ 6) (hh : ∀ g, g < G → mg (4 * g) = th g) (ha : ∀ g, g < G → mg (4 * g + 3) = ta g) (h01 : ∀ g, g < G → th g = nI 0 ∨ th g = nI 1) (hex : 0 < G → (∃ b, b < G ∧ th b = nI 0) ∧ ∃ b, b < G ∧ th b = nI 1) (hN : RN G M c m) (hI : IV G th c) (lt st lt2 st2 : Nat → Int32) (v : Int32) : ∃ r lt' st' lt2' st2', f_X11_sure (nI G) th ta lh ll l0 l1 l2 l3 c lt st v = some (r, lt', st') ∧ f_X12_sure (nI G) mh mc mv mk mt ms mu mg m lt2 st2 v = some (r, lt2', st2') := by
  by_cases g0 : G = 0
  · refine ⟨mI 1000000, lt, st, lt2, st2, ?_, ?_⟩
    · simp (disch := omega) only [f_X11_sure, b_X11_sure_16, b_X11_sure_59, b_X11_sure_25, b_X11_sure_0, noPeace_y g0, neg_nI, lit_nI, nI_add, pk_mul, pk_sub, nI_clamp, inB_nI, gd_true, bnd_def, nI_leI, nI_ltI, nI_eq, nI_mI, mI_nI, nle_T, nle_F, nlt_T, nlt_F, neq_T, neq_F, ↓reduceIte, Nat.add_zero, Nat.zero_add, Nat.mul_zero, Nat.reduceAdd, Nat.reduceMul, Nat.reduceSub, ob1_e, ob2_e, ob3_e, ob4_e, ob6_e]
    · simp (disch := omega) only [f_X12_sure, b_X12_sure_16, b_X12_sure_26, b_X12_sure_0, neg_nI, lit_nI, nI_add, pk_mul, pk_sub, nI_clamp, inB_nI, gd_true, bnd_def, nI_leI, nI_ltI, nI_eq, nI_mI, mI_nI, nle_T, nle_F, nlt_T, nlt_F, neq_T, neq_F, ↓reduceIte, Nat.add_zero, Nat.zero_add, Nat.mul_zero, Nat.reduceAdd, Nat.reduceMul, Nat.reduceSub, ob1_e, ob2_e, ob3_e, ob4_e, ob6_e]
  · rcases rng v 1 (by omega) with ⟨h, hle, rfl⟩ | k0 | ⟨k0, k1, k2⟩
    · obtain ⟨x0, x1⟩ := hex (by omega)
      have ex1 : ∃ b, b < G ∧ th b = nI h := by
        rcases (show h = 0 ∨ h = 1 by omega) with rfl | rfl
        · exact x0
        · exact x1
      have ex2 : ∃ b, b < G ∧ th b = nI (1 - h) := by
        rcases (show h = 0 ∨ h = 1 by omega) with rfl | rfl
        · exact x1
        · exact x0
      obtain ⟨r, lt', st', lt2', st2', e1, e2⟩ := sure_l hX hY hB hG hh ha h01 hN hI hle ex1 ex2 G 0 fu fu lt st lt2 st2 (mI 20) (mI 1000000) (by omega) (by have := fu_le; omega) (by have := fu_le; omega) (Or.inr ⟨rfl, rfl, fun s hs => by omega⟩)
      have e2' : f_X12_sure_26 (nI G) mh mc mv mk mt ms mu mg m fu lt2 st2 (nI h) (mI 1000000) (nI 0) = some (r, lt2', st2') := e2
      refine ⟨r, lt', st', lt2', st2', ?_, ?_⟩
      · rw [← e1]
        simp (disch := omega) only [f_X11_sure, b_X11_sure_16, b_X11_sure_59, b_X11_sure_25, b_X11_sure_0, noPeace_n, neg_nI, lit_nI, nI_add, pk_mul, pk_sub, nI_clamp, inB_nI, gd_true, bnd_def, nI_leI, nI_ltI, nI_eq, nI_mI, mI_nI, nle_T, nle_F, nlt_T, nlt_F, neq_T, neq_F, ↓reduceIte, Nat.add_zero, Nat.zero_add, Nat.mul_zero, Nat.reduceAdd, Nat.reduceMul, Nat.reduceSub, ob1_e, ob2_e, ob3_e, ob4_e, ob6_e]
      · rw [← e2']
        simp (disch := omega) only [f_X12_sure, b_X12_sure_16, b_X12_sure_26, b_X12_sure_0, in_c, neg_nI, lit_nI, nI_add, pk_mul, pk_sub, nI_clamp, inB_nI, gd_true, bnd_def, nI_leI, nI_ltI, nI_eq, nI_mI, mI_nI, nle_T, nle_F, nlt_T, nlt_F, neq_T, neq_F, ↓reduceIte, Nat.add_zero, Nat.zero_add, Nat.mul_zero, Nat.reduceAdd, Nat.reduceMul, Nat.reduceSub, ob1_e, ob2_e, ob3_e, ob4_e, ob6_e]
    · refine ⟨mI 1000000, lt, st, lt2, st2, ?_, ?_⟩
      · simp (disch := omega) only [f_X11_sure, b_X11_sure_16, b_X11_sure_59, b_X11_sure_25, b_X11_sure_0, noPeace_n, k0, neg_nI, lit_nI, nI_add, pk_mul, pk_sub, nI_clamp, inB_nI, gd_true, bnd_def, nI_leI, nI_ltI, nI_eq, nI_mI, mI_nI, nle_T, nle_F, nlt_T, nlt_F, neq_T, neq_F, ↓reduceIte, Nat.add_zero, Nat.zero_add, Nat.mul_zero, Nat.reduceAdd, Nat.reduceMul, Nat.reduceSub, ob1_e, ob2_e, ob3_e, ob4_e, ob6_e]
      · simp (disch := omega) only [f_X12_sure, b_X12_sure_16, b_X12_sure_26, b_X12_sure_0, in_lo (hi := nI 1) k0, neg_nI, lit_nI, nI_add, pk_mul, pk_sub, nI_clamp, inB_nI, gd_true, bnd_def, nI_leI, nI_ltI, nI_eq, nI_mI, mI_nI, nle_T, nle_F, nlt_T, nlt_F, neq_T, neq_F, ↓reduceIte, Nat.add_zero, Nat.zero_add, Nat.mul_zero, Nat.reduceAdd, Nat.reduceMul, Nat.reduceSub, ob1_e, ob2_e, ob3_e, ob4_e, ob6_e]
    · refine ⟨mI 1000000, lt, st, lt2, st2, ?_, ?_⟩
      · simp (disch := omega) only [f_X11_sure, b_X11_sure_16, b_X11_sure_59, b_X11_sure_25, b_X11_sure_0, noPeace_n, k0, k2, neg_nI, lit_nI, nI_add, pk_mul, pk_sub, nI_clamp, inB_nI, gd_true, bnd_def, nI_leI, nI_ltI, nI_eq, nI_mI, mI_nI, nle_T, nle_F, nlt_T, nlt_F, neq_T, neq_F, ↓reduceIte, Nat.add_zero, Nat.zero_add, Nat.mul_zero, Nat.reduceAdd, Nat.reduceMul, Nat.reduceSub, ob1_e, ob2_e, ob3_e, ob4_e, ob6_e]
      · simp (disch := omega) only [f_X12_sure, b_X12_sure_16, b_X12_sure_26, b_X12_sure_0, in_hi (lo := nI 0) k1, neg_nI, lit_nI, nI_add, pk_mul, pk_sub, nI_clamp, inB_nI, gd_true, bnd_def, nI_leI, nI_ltI, nI_eq, nI_mI, mI_nI, nle_T, nle_F, nlt_T, nlt_F, neq_T, neq_F, ↓reduceIte, Nat.add_zero, Nat.zero_add, Nat.mul_zero, Nat.reduceAdd, Nat.reduceMul, Nat.reduceSub, ob1_e, ob2_e, ob3_e, ob4_e, ob6_e]
end SU
end
section
/-! rests -/
theorem allF_and {p q r : Nat → Bool} : ∀ (j k : Nat), (∀ i, k ≤ i → i < k + j → p i = (q i && r i)) → allF p j k = (allF q j k && allF r j k)
  | 0, _, _ => rfl
  | j + 1, k, h => by
    unfold allF
    rw [h k (by omega) (by omega), allF_and j (k + 1) (fun i h1 h2 => h i (by omega) (by omega))]
    cases q k <;> cases r k <;> cases allF q j (k + 1) <;> cases allF r j (k + 1) <;> rfl
theorem isZ_bz (b : Bool) : isZ (bz b) = true := by cases b <;> rfl
section RT
variable {R : R6} {lh : Int32} {ll l0 l1 l2 l3 : Nat → Int32} {mh : Int32} {mc mv mk mt ms mu : Nat → Int32}
variable {G M : Nat} {th ta mg c m : Nat → Int32}
def pR0 (R : R6) (th ta c : Nat → Int32) (a b t : Nat) : Bool := decide (th t = nI 0 → ga R ta c (some t) (some b) ≤ ga R ta c (some a) (some b))
def pR1 (R : R6) (th ta c : Nat → Int32) (a b t : Nat) : Bool := decide (th t = nI 1 → ga R ta c (some t) (some a) ≤ ga R ta c (some b) (some a))
theorem restX_l (hX : RiseX R lh ll l0 l1 l2 l3) (hG : G ≤ 6) (h01 : ∀ g, g < G → th g = nI 0 ∨ th g = nI 1) {a b : Nat} (ha : a < G) (hb : b < G) : ∀ (j t n : Nat) (lt st : Nat → Int32), t + j = G → j < n → ∃ lt' st', f_X11_isRest_24 (nI G) th ta lh ll l0 l1 l2 l3 c n lt st (nI a) (nI b) (ga R ta c (some a) (some b)) (ga R ta c (some b) (some a)) (nI t) = some (bz (allF (fun t => pR0 R th ta c a b t && pR1 R th ta c a b t) j t), lt', st') := by
  intro j
  induction j with
  | zero =>
    intro t n lt st ht h1
    obtain ⟨n, rfl⟩ : ∃ q, n = q + 1 := ⟨n - 1, by omega⟩
    exact ⟨lt, st, by simp (disch := omega) only [f_X11_isRest_24, f_X11_isRest, b_X11_isRest_91, b_X11_isRest_24, b_X11_isRest_0, allF, bz_t, neg_nI, lit_nI, nI_add, pk_mul, pk_sub, nI_clamp, inB_nI, gd_true, bnd_def, nI_leI, nI_ltI, nI_eq, nI_mI, mI_nI, nle_T, nle_F, nlt_T, nlt_F, neq_T, neq_F, ↓reduceIte, Nat.add_zero, Nat.zero_add, Nat.mul_zero, Nat.reduceAdd, Nat.reduceMul, Nat.reduceSub, ob1_e, ob2_e, ob3_e, ob4_e, ob6_e]⟩
  | succ j ih =>
    intro t n lt st ht h1
    obtain ⟨n, rfl⟩ : ∃ q, n = q + 1 := ⟨n - 1, by omega⟩
    have n01 : ¬ nI 1 = nI 0 := by decide
    have n10 : ¬ nI 0 = nI 1 := by decide
    rcases h01 t (by omega) with e | e
    · obtain ⟨lt1, st1, x1⟩ := gains_c hX hG (ta := ta) (c := c) (some t) (some b) (fun q z => by cases z; omega) (fun q z => by cases z; exact hb) lt st
      simp only [gx] at x1
      have p1 : pR1 R th ta c a b t = true := by unfold pR1; exact decide_eq_true (fun z => absurd (e.symm.trans z) n10)
      by_cases hv : ga R ta c (some t) (some b) ≤ ga R ta c (some a) (some b)
      · have p0 : pR0 R th ta c a b t = true := by unfold pR0; exact decide_eq_true (fun _ => hv)
        obtain ⟨lt2, st2, e2⟩ := ih (t + 1) n lt1 st1 (by omega) (by omega)
        refine ⟨lt2, st2, ?_⟩
        simp (disch := omega) only [f_X11_isRest_24, f_X11_isRest, b_X11_isRest_91, b_X11_isRest_24, b_X11_isRest_0, allF, e, x1, hv, p0, p1, Bool.true_and, e2, neg_nI, lit_nI, nI_add, pk_mul, pk_sub, nI_clamp, inB_nI, gd_true, bnd_def, nI_leI, nI_ltI, nI_eq, nI_mI, mI_nI, nle_T, nle_F, nlt_T, nlt_F, neq_T, neq_F, ↓reduceIte, Nat.add_zero, Nat.zero_add, Nat.mul_zero, Nat.reduceAdd, Nat.reduceMul, Nat.reduceSub, ob1_e, ob2_e, ob3_e, ob4_e, ob6_e]
      · have p0 : pR0 R th ta c a b t = false := by unfold pR0; exact decide_eq_false (fun z => hv (z e))
        refine ⟨lt1, st1, ?_⟩
        simp (disch := omega) only [f_X11_isRest_24, f_X11_isRest, b_X11_isRest_91, b_X11_isRest_24, b_X11_isRest_0, allF, e, x1, hv, p0, p1, Bool.false_and, bz_f, neg_nI, lit_nI, nI_add, pk_mul, pk_sub, nI_clamp, inB_nI, gd_true, bnd_def, nI_leI, nI_ltI, nI_eq, nI_mI, mI_nI, nle_T, nle_F, nlt_T, nlt_F, neq_T, neq_F, ↓reduceIte, Nat.add_zero, Nat.zero_add, Nat.mul_zero, Nat.reduceAdd, Nat.reduceMul, Nat.reduceSub, ob1_e, ob2_e, ob3_e, ob4_e, ob6_e]
    · obtain ⟨lt1, st1, x1⟩ := gains_c hX hG (ta := ta) (c := c) (some t) (some a) (fun q z => by cases z; omega) (fun q z => by cases z; exact ha) lt st
      simp only [gx] at x1
      have p0 : pR0 R th ta c a b t = true := by unfold pR0; exact decide_eq_true (fun z => absurd (e.symm.trans z) n01)
      by_cases hv : ga R ta c (some t) (some a) ≤ ga R ta c (some b) (some a)
      · have p1 : pR1 R th ta c a b t = true := by unfold pR1; exact decide_eq_true (fun _ => hv)
        obtain ⟨lt2, st2, e2⟩ := ih (t + 1) n lt1 st1 (by omega) (by omega)
        refine ⟨lt2, st2, ?_⟩
        simp (disch := omega) only [f_X11_isRest_24, f_X11_isRest, b_X11_isRest_91, b_X11_isRest_24, b_X11_isRest_0, allF, e, x1, hv, p0, p1, Bool.true_and, e2, neg_nI, lit_nI, nI_add, pk_mul, pk_sub, nI_clamp, inB_nI, gd_true, bnd_def, nI_leI, nI_ltI, nI_eq, nI_mI, mI_nI, nle_T, nle_F, nlt_T, nlt_F, neq_T, neq_F, ↓reduceIte, Nat.add_zero, Nat.zero_add, Nat.mul_zero, Nat.reduceAdd, Nat.reduceMul, Nat.reduceSub, ob1_e, ob2_e, ob3_e, ob4_e, ob6_e]
      · have p1 : pR1 R th ta c a b t = false := by unfold pR1; exact decide_eq_false (fun z => hv (z e))
        refine ⟨lt1, st1, ?_⟩
        simp (disch := omega) only [f_X11_isRest_24, f_X11_isRest, b_X11_isRest_91, b_X11_isRest_24, b_X11_isRest_0, allF, e, x1, hv, p0, p1, Bool.false_and, Bool.and_false, bz_f, neg_nI, lit_nI, nI_add, pk_mul, pk_sub, nI_clamp, inB_nI, gd_true, bnd_def, nI_leI, nI_ltI, nI_eq, nI_mI, mI_nI, nle_T, nle_F, nlt_T, nlt_F, neq_T, neq_F, ↓reduceIte, Nat.add_zero, Nat.zero_add, Nat.mul_zero, Nat.reduceAdd, Nat.reduceMul, Nat.reduceSub, ob1_e, ob2_e, ob3_e, ob4_e, ob6_e]
theorem restY1_l (hY : RiseY R mh mc mv mk mt ms mu) (hG : G ≤ 6) (hh : ∀ g, g < G → mg (4 * g) = th g) (hal : ∀ g, g < G → mg (4 * g + 3) = ta g) (hN : RN G M c m) {a b : Nat} (ha : a < G) (hb : b < G) (ea : th a = nI 0) (eb : th b = nI 1) : ∀ (j t n : Nat) (lt st : Nat → Int32) (is : Bool), t + j = G → j < n → ∃ lt' st', f_X12_isRest_52 (nI G) mh mc mv mk mt ms mu mg m n lt st (nI (cnt th (nI 0) a)) (nI (cnt th (nI 1) b)) (bz is) (nI (cnt th (nI 1) t)) = some (bz (is && allF (pR1 R th ta c a b) j t), lt', st') := by
  have hm := sizeY_c (th := th) (mg := mg) (h := nI 1) hG hh
  have hcG := cnt_le th (nI 1) G
  have na := nt_at hG ha ea
  have nb := nt_at hG hb eb
  intro j
  induction j with
  | zero =>
    intro t n lt st is ht h1
    obtain ⟨n, rfl⟩ : ∃ q, n = q + 1 := ⟨n - 1, by omega⟩
    have et : t = G := by omega
    subst et
    exact ⟨lt, st, by simp (disch := omega) only [f_X12_isRest_52, b_X12_isRest_52, allF, hm, isZ_bz, Bool.and_true, neg_nI, lit_nI, nI_add, pk_mul, pk_sub, nI_clamp, inB_nI, gd_true, bnd_def, nI_leI, nI_ltI, nI_eq, nI_mI, mI_nI, nle_T, nle_F, nlt_T, nlt_F, neq_T, neq_F, ↓reduceIte, Nat.add_zero, Nat.zero_add, Nat.mul_zero, Nat.reduceAdd, Nat.reduceMul, Nat.reduceSub, ob1_e, ob2_e, ob3_e, ob4_e, ob6_e]⟩
  | succ j ih =>
    intro t n lt st is ht h1
    by_cases e : th t = nI 1
    · obtain ⟨n, rfl⟩ : ∃ q, n = q + 1 := ⟨n - 1, by omega⟩
      have hlt := cnt_lt e (show t < G by omega)
      cases is with
      | false =>
        obtain ⟨lt2, st2, e2⟩ := ih (t + 1) n lt st false (by omega) (by omega)
        rw [cnt_y e, bz_f] at e2
        refine ⟨lt2, st2, ?_⟩
        rw [bz_f]
        simp (disch := omega) only [f_X12_isRest_52, f_X12_isRest, b_X12_isRest_42, b_X12_isRest_41, b_X12_isRest_89, b_X12_isRest_88, b_X12_isRest_52, b_X12_isRest_5, b_X12_isRest_0, hm, e2, Bool.false_and, bz_f, neg_nI, lit_nI, nI_add, pk_mul, pk_sub, nI_clamp, inB_nI, gd_true, bnd_def, nI_leI, nI_ltI, nI_eq, nI_mI, mI_nI, nle_T, nle_F, nlt_T, nlt_F, neq_T, neq_F, ↓reduceIte, Nat.add_zero, Nat.zero_add, Nat.mul_zero, Nat.reduceAdd, Nat.reduceMul, Nat.reduceSub, ob1_e, ob2_e, ob3_e, ob4_e, ob6_e]
      | true =>
        obtain ⟨lt1, st1, y1⟩ := gameOf_c hY hG hh hal hN (x := nI (cnt th (nI 0) a)) (y := nI (cnt th (nI 1) t)) (z := some a) (w := some t) na (nt_at hG (by omega) e) (fun q z => by cases z; exact ha) (fun q z => by cases z; omega) 1 (by omega) lt st
        obtain ⟨lt2, st2, y2⟩ := gameOf_c hY hG hh hal hN (x := nI (cnt th (nI 0) a)) (y := nI (cnt th (nI 1) b)) (z := some a) (w := some b) na nb (fun q z => by cases z; exact ha) (fun q z => by cases z; exact hb) 1 (by omega) lt1 st1
        rw [if_neg (by omega)] at y1 y2
        by_cases hv : ga R ta c (some t) (some a) ≤ ga R ta c (some b) (some a)
        · have p1 : pR1 R th ta c a b t = true := by unfold pR1; exact decide_eq_true (fun _ => hv)
          have hv2 : ¬ ga R ta c (some b) (some a) < ga R ta c (some t) (some a) := by
            rw [le32] at hv
            rw [lt32]
            omega
          obtain ⟨lt3, st3, e2⟩ := ih (t + 1) n lt2 st2 true (by omega) (by omega)
          rw [cnt_y e, bz_t] at e2
          refine ⟨lt3, st3, ?_⟩
          rw [bz_t]
          simp (disch := omega) only [f_X12_isRest_52, f_X12_isRest, b_X12_isRest_42, b_X12_isRest_41, b_X12_isRest_89, b_X12_isRest_88, b_X12_isRest_52, b_X12_isRest_5, b_X12_isRest_0, hm, y1, y2, hv2, allF, p1, Bool.true_and, e2, neg_nI, lit_nI, nI_add, pk_mul, pk_sub, nI_clamp, inB_nI, gd_true, bnd_def, nI_leI, nI_ltI, nI_eq, nI_mI, mI_nI, nle_T, nle_F, nlt_T, nlt_F, neq_T, neq_F, ↓reduceIte, Nat.add_zero, Nat.zero_add, Nat.mul_zero, Nat.reduceAdd, Nat.reduceMul, Nat.reduceSub, ob1_e, ob2_e, ob3_e, ob4_e, ob6_e]
        · have p1 : pR1 R th ta c a b t = false := by unfold pR1; exact decide_eq_false (fun z => hv (z e))
          have hv2 : ga R ta c (some b) (some a) < ga R ta c (some t) (some a) := by
            rw [le32] at hv
            rw [lt32]
            omega
          obtain ⟨lt3, st3, e2⟩ := ih (t + 1) n lt2 st2 false (by omega) (by omega)
          rw [cnt_y e, bz_f] at e2
          refine ⟨lt3, st3, ?_⟩
          rw [bz_t]
          simp (disch := omega) only [f_X12_isRest_52, f_X12_isRest, b_X12_isRest_42, b_X12_isRest_41, b_X12_isRest_89, b_X12_isRest_88, b_X12_isRest_52, b_X12_isRest_5, b_X12_isRest_0, hm, y1, y2, hv2, allF, p1, Bool.false_and, Bool.true_and, Bool.and_false, bz_f, e2, neg_nI, lit_nI, nI_add, pk_mul, pk_sub, nI_clamp, inB_nI, gd_true, bnd_def, nI_leI, nI_ltI, nI_eq, nI_mI, mI_nI, nle_T, nle_F, nlt_T, nlt_F, neq_T, neq_F, ↓reduceIte, Nat.add_zero, Nat.zero_add, Nat.mul_zero, Nat.reduceAdd, Nat.reduceMul, Nat.reduceSub, ob1_e, ob2_e, ob3_e, ob4_e, ob6_e]
    · have p1 : pR1 R th ta c a b t = true := by unfold pR1; exact decide_eq_true (fun z => absurd z e)
      obtain ⟨lt3, st3, e2⟩ := ih (t + 1) n lt st is (by omega) (by omega)
      rw [cnt_n e] at e2
      refine ⟨lt3, st3, ?_⟩
      rw [allF, p1, Bool.true_and]
      exact e2
theorem restY0_l (hY : RiseY R mh mc mv mk mt ms mu) (hG : G ≤ 6) (hh : ∀ g, g < G → mg (4 * g) = th g) (hal : ∀ g, g < G → mg (4 * g + 3) = ta g) (hN : RN G M c m) {a b : Nat} (ha : a < G) (hb : b < G) (ea : th a = nI 0) (eb : th b = nI 1) : ∀ (j t n : Nat) (lt st : Nat → Int32) (is : Bool), t + j = G → j < n → ∃ lt' st', f_X12_isRest_5 (nI G) mh mc mv mk mt ms mu mg m n lt st (nI (cnt th (nI 0) a)) (nI (cnt th (nI 1) b)) (bz is) (nI (cnt th (nI 0) t)) = f_X12_isRest_52 (nI G) mh mc mv mk mt ms mu mg m fu lt' st' (nI (cnt th (nI 0) a)) (nI (cnt th (nI 1) b)) (bz (is && allF (pR0 R th ta c a b) j t)) (nI 0) := by
  have hm := sizeY_c (th := th) (mg := mg) (h := nI 0) hG hh
  have hcG := cnt_le th (nI 0) G
  have na := nt_at hG ha ea
  have nb := nt_at hG hb eb
  intro j
  induction j with
  | zero =>
    intro t n lt st is ht h1
    obtain ⟨n, rfl⟩ : ∃ q, n = q + 1 := ⟨n - 1, by omega⟩
    have et : t = G := by omega
    subst et
    exact ⟨lt, st, by simp (disch := omega) only [f_X12_isRest_5, b_X12_isRest_5, allF, hm, Bool.and_true, neg_nI, lit_nI, nI_add, pk_mul, pk_sub, nI_clamp, inB_nI, gd_true, bnd_def, nI_leI, nI_ltI, nI_eq, nI_mI, mI_nI, nle_T, nle_F, nlt_T, nlt_F, neq_T, neq_F, ↓reduceIte, Nat.add_zero, Nat.zero_add, Nat.mul_zero, Nat.reduceAdd, Nat.reduceMul, Nat.reduceSub, ob1_e, ob2_e, ob3_e, ob4_e, ob6_e]⟩
  | succ j ih =>
    intro t n lt st is ht h1
    by_cases e : th t = nI 0
    · obtain ⟨n, rfl⟩ : ∃ q, n = q + 1 := ⟨n - 1, by omega⟩
      have hlt := cnt_lt e (show t < G by omega)
      cases is with
      | false =>
        obtain ⟨lt2, st2, e2⟩ := ih (t + 1) n lt st false (by omega) (by omega)
        rw [cnt_y e, bz_f] at e2
        refine ⟨lt2, st2, ?_⟩
        rw [bz_f]
        simp (disch := omega) only [f_X12_isRest_5, b_X12_isRest_5, b_X12_isRest_41, b_X12_isRest_42, hm, e2, Bool.false_and, bz_f, neg_nI, lit_nI, nI_add, pk_mul, pk_sub, nI_clamp, inB_nI, gd_true, bnd_def, nI_leI, nI_ltI, nI_eq, nI_mI, mI_nI, nle_T, nle_F, nlt_T, nlt_F, neq_T, neq_F, ↓reduceIte, Nat.add_zero, Nat.zero_add, Nat.mul_zero, Nat.reduceAdd, Nat.reduceMul, Nat.reduceSub, ob1_e, ob2_e, ob3_e, ob4_e, ob6_e]
      | true =>
        obtain ⟨lt1, st1, y1⟩ := gameOf_c hY hG hh hal hN (x := nI (cnt th (nI 0) t)) (y := nI (cnt th (nI 1) b)) (z := some t) (w := some b) (nt_at hG (by omega) e) nb (fun q z => by cases z; omega) (fun q z => by cases z; exact hb) 0 (by omega) lt st
        obtain ⟨lt2, st2, y2⟩ := gameOf_c hY hG hh hal hN (x := nI (cnt th (nI 0) a)) (y := nI (cnt th (nI 1) b)) (z := some a) (w := some b) na nb (fun q z => by cases z; exact ha) (fun q z => by cases z; exact hb) 0 (by omega) lt1 st1
        rw [if_pos rfl] at y1 y2
        by_cases hv : ga R ta c (some t) (some b) ≤ ga R ta c (some a) (some b)
        · have p1 : pR0 R th ta c a b t = true := by unfold pR0; exact decide_eq_true (fun _ => hv)
          have hv2 : ¬ ga R ta c (some a) (some b) < ga R ta c (some t) (some b) := by
            rw [le32] at hv
            rw [lt32]
            omega
          obtain ⟨lt3, st3, e2⟩ := ih (t + 1) n lt2 st2 true (by omega) (by omega)
          rw [cnt_y e, bz_t] at e2
          refine ⟨lt3, st3, ?_⟩
          rw [bz_t]
          simp (disch := omega) only [f_X12_isRest_5, b_X12_isRest_5, b_X12_isRest_41, b_X12_isRest_42, hm, y1, y2, hv2, allF, p1, Bool.true_and, e2, neg_nI, lit_nI, nI_add, pk_mul, pk_sub, nI_clamp, inB_nI, gd_true, bnd_def, nI_leI, nI_ltI, nI_eq, nI_mI, mI_nI, nle_T, nle_F, nlt_T, nlt_F, neq_T, neq_F, ↓reduceIte, Nat.add_zero, Nat.zero_add, Nat.mul_zero, Nat.reduceAdd, Nat.reduceMul, Nat.reduceSub, ob1_e, ob2_e, ob3_e, ob4_e, ob6_e]
        · have p1 : pR0 R th ta c a b t = false := by unfold pR0; exact decide_eq_false (fun z => hv (z e))
          have hv2 : ga R ta c (some a) (some b) < ga R ta c (some t) (some b) := by
            rw [le32] at hv
            rw [lt32]
            omega
          obtain ⟨lt3, st3, e2⟩ := ih (t + 1) n lt2 st2 false (by omega) (by omega)
          rw [cnt_y e, bz_f] at e2
          refine ⟨lt3, st3, ?_⟩
          rw [bz_t]
          simp (disch := omega) only [f_X12_isRest_5, b_X12_isRest_5, b_X12_isRest_41, b_X12_isRest_42, hm, y1, y2, hv2, allF, p1, Bool.false_and, Bool.true_and, Bool.and_false, bz_f, e2, neg_nI, lit_nI, nI_add, pk_mul, pk_sub, nI_clamp, inB_nI, gd_true, bnd_def, nI_leI, nI_ltI, nI_eq, nI_mI, mI_nI, nle_T, nle_F, nlt_T, nlt_F, neq_T, neq_F, ↓reduceIte, Nat.add_zero, Nat.zero_add, Nat.mul_zero, Nat.reduceAdd, Nat.reduceMul, Nat.reduceSub, ob1_e, ob2_e, ob3_e, ob4_e, ob6_e]
    · have p1 : pR0 R th ta c a b t = true := by unfold pR0; exact decide_eq_true (fun z => absurd z e)
      obtain ⟨lt3, st3, e2⟩ := ih (t + 1) n lt st is (by omega) (by omega)
      rw [cnt_n e] at e2
      refine ⟨lt3, st3, ?_⟩
      rw [allF, p1, Bool.true_and]
      exact e2
theorem rest_c (hX : RiseX R lh ll l0 l1 l2 l3) (hY : RiseY R mh mc mv mk mt ms mu) (hG : G ≤ 6) (hh : ∀ g, g < G → mg (4 * g) = th g) (hal : ∀ g, g < G → mg (4 * g + 3) = ta g) (h01 : ∀ g, g < G → th g = nI 0 ∨ th g = nI 1) (hN : RN G M c m) {a b : Nat} (ha : a < G) (hb : b < G) (ea : th a = nI 0) (eb : th b = nI 1) (lt st lt2 st2 : Nat → Int32) : ∃ z lt' st' lt2' st2', f_X11_isRest (nI G) th ta lh ll l0 l1 l2 l3 c lt st (nI a) (nI b) = some (bz z, lt', st') ∧ f_X12_isRest (nI G) mh mc mv mk mt ms mu mg m lt2 st2 (nI (cnt th (nI 0) a)) (nI (cnt th (nI 1) b)) = some (bz z, lt2', st2') := by
  obtain ⟨lt1, st1, x1⟩ := gains_c hX hG (ta := ta) (c := c) (some a) (some b) (fun q z => by cases z; exact ha) (fun q z => by cases z; exact hb) lt st
  obtain ⟨lt3, st3, x2⟩ := gains_c hX hG (ta := ta) (c := c) (some b) (some a) (fun q z => by cases z; exact hb) (fun q z => by cases z; exact ha) lt1 st1
  simp only [gx] at x1 x2
  obtain ⟨lt', st', x3⟩ := restX_l (c := c) (ta := ta) hX hG h01 ha hb G 0 fu lt3 st3 (by omega) (by have := fu_le; omega)
  obtain ⟨lt4, st4, y1⟩ := restY0_l hY hG hh hal hN ha hb ea eb G 0 fu lt2 st2 true (by omega) (by have := fu_le; omega)
  obtain ⟨lt5, st5, y2⟩ := restY1_l hY hG hh hal hN ha hb ea eb G 0 fu lt4 st4 (allF (pR0 R th ta c a b) G 0) (by omega) (by have := fu_le; omega)
  have y1' : f_X12_isRest_5 (nI G) mh mc mv mk mt ms mu mg m fu lt2 st2 (nI (cnt th (nI 0) a)) (nI (cnt th (nI 1) b)) (nI 1) (nI 0) = f_X12_isRest_52 (nI G) mh mc mv mk mt ms mu mg m fu lt4 st4 (nI (cnt th (nI 0) a)) (nI (cnt th (nI 1) b)) (bz (allF (pR0 R th ta c a b) G 0)) (nI 0) := by
    rw [Bool.true_and] at y1
    exact y1
  have y2' : f_X12_isRest_52 (nI G) mh mc mv mk mt ms mu mg m fu lt4 st4 (nI (cnt th (nI 0) a)) (nI (cnt th (nI 1) b)) (bz (allF (pR0 R th ta c a b) G 0)) (nI 0) = some (bz (allF (pR0 R th ta c a b) G 0 && allF (pR1 R th ta c a b) G 0), lt5, st5) := y2
  refine ⟨allF (fun t => pR0 R th ta c a b t && pR1 R th ta c a b t) G 0, lt', st', lt5, st5, ?_, ?_⟩
  · rw [← x3]
    simp (disch := omega) only [f_X11_isRest, b_X11_isRest_0, x1, x2, neg_nI, lit_nI, nI_add, pk_mul, pk_sub, nI_clamp, inB_nI, gd_true, bnd_def, nI_leI, nI_ltI, nI_eq, nI_mI, mI_nI, nle_T, nle_F, nlt_T, nlt_F, neq_T, neq_F, ↓reduceIte, Nat.add_zero, Nat.zero_add, Nat.mul_zero, Nat.reduceAdd, Nat.reduceMul, Nat.reduceSub, ob1_e, ob2_e, ob3_e, ob4_e, ob6_e]
  · rw [allF_and G 0 (fun i _ _ => rfl), ← y2', ← y1']
    simp (disch := omega) only [f_X12_isRest, b_X12_isRest_0, neg_nI, lit_nI, nI_add, pk_mul, pk_sub, nI_clamp, inB_nI, gd_true, bnd_def, nI_leI, nI_ltI, nI_eq, nI_mI, mI_nI, nle_T, nle_F, nlt_T, nlt_F, neq_T, neq_F, ↓reduceIte, Nat.add_zero, Nat.zero_add, Nat.mul_zero, Nat.reduceAdd, Nat.reduceMul, Nat.reduceSub, ob1_e, ob2_e, ob3_e, ob4_e, ob6_e]
theorem rests_in (hX : RiseX R lh ll l0 l1 l2 l3) (hY : RiseY R mh mc mv mk mt ms mu) (hG : G ≤ 6) (hh : ∀ g, g < G → mg (4 * g) = th g) (hal : ∀ g, g < G → mg (4 * g + 3) = ta g) (h01 : ∀ g, g < G → th g = nI 0 ∨ th g = nI 1) (hN : RN G M c m) {i : Int32} {x : Nat} (hx : x < cnt th (nI 0) G) {kx ky : (Nat → Int32) → (Nat → Int32) → Int32 → Int32 → Int32 → Option (Int32 × (Nat → Int32) × (Nat → Int32))} : ∀ (j y n n' : Nat) (lt st lt2 st2 : Nat → Int32) (v : Int32), y + j = cnt th (nI 1) G → j < n → j < n' → (∃ r lt' st' lt2' st2', f_X11_rests_33 (nI G) th ta lh ll l0 l1 l2 l3 c kx n lt st i v (nI x) (nI y) = some (r, lt', st') ∧ f_X12_rests_30 (nI G) mh mc mv mk mt ms mu mg m ky n' lt2 st2 i v (nI x) (nI y) = some (r, lt2', st2')) ∨ (∃ v' lt' st' lt2' st2', f_X11_rests_33 (nI G) th ta lh ll l0 l1 l2 l3 c kx n lt st i v (nI x) (nI y) = kx lt' st' i v' (nI (x + 1)) ∧ f_X12_rests_30 (nI G) mh mc mv mk mt ms mu mg m ky n' lt2 st2 i v (nI x) (nI y) = ky lt2' st2' i v' (nI (x + 1))) := by
  have h1X := sizeX_c (th := th) (h := nI 1) hG
  have h1Y := sizeY_c (th := th) (mg := mg) (h := nI 1) hG hh
  have c0 := cnt_le th (nI 0) G
  have c1 := cnt_le th (nI 1) G
  intro j
  induction j with
  | zero =>
    intro y n n' lt st lt2 st2 v hy h1 h2
    obtain ⟨n, rfl⟩ : ∃ q, n = q + 1 := ⟨n - 1, by omega⟩
    obtain ⟨n', rfl⟩ : ∃ q, n' = q + 1 := ⟨n' - 1, by omega⟩
    refine Or.inr ⟨v, lt, st, lt2, st2, ?_, ?_⟩
    · simp (disch := omega) only [f_X11_rests_33, b_X11_rests_33, h1X, neg_nI, lit_nI, nI_add, pk_mul, pk_sub, nI_clamp, inB_nI, gd_true, bnd_def, nI_leI, nI_ltI, nI_eq, nI_mI, mI_nI, nle_T, nle_F, nlt_T, nlt_F, neq_T, neq_F, ↓reduceIte, Nat.add_zero, Nat.zero_add, Nat.mul_zero, Nat.reduceAdd, Nat.reduceMul, Nat.reduceSub, ob1_e, ob2_e, ob3_e, ob4_e, ob6_e]
    · simp (disch := omega) only [f_X12_rests_30, b_X12_rests_30, h1Y, neg_nI, lit_nI, nI_add, pk_mul, pk_sub, nI_clamp, inB_nI, gd_true, bnd_def, nI_leI, nI_ltI, nI_eq, nI_mI, mI_nI, nle_T, nle_F, nlt_T, nlt_F, neq_T, neq_F, ↓reduceIte, Nat.add_zero, Nat.zero_add, Nat.mul_zero, Nat.reduceAdd, Nat.reduceMul, Nat.reduceSub, ob1_e, ob2_e, ob3_e, ob4_e, ob6_e]
  | succ j ih =>
    intro y n n' lt st lt2 st2 v hy h1 h2
    obtain ⟨n, rfl⟩ : ∃ q, n = q + 1 := ⟨n - 1, by omega⟩
    obtain ⟨n', rfl⟩ : ∃ q, n' = q + 1 := ⟨n' - 1, by omega⟩
    obtain ⟨a, ha, ea, qa⟩ := nt_some G hx
    obtain ⟨b, hb, eb, qb⟩ := nt_some (x := y) (h := nI 1) (th := th) G (by omega)
    have na : f_X5_nth (nI G) th (nI 0) (nI x) = some (nI a) := by rw [nthX_c hG, ← qa, nt_at hG ha ea]
    have nb : f_X5_nth (nI G) th (nI 1) (nI y) = some (nI b) := by rw [nthX_c hG, ← qb, nt_at hG hb eb]
    obtain ⟨z, lt1, st1, lt3, st3, e1, e2⟩ := rest_c hX hY hG hh hal h01 hN ha hb ea eb lt st lt2 st2
    rw [qa, qb] at e2
    cases z with
    | false =>
      rw [bz_f] at e1 e2
      rcases ih (y + 1) n n' lt1 st1 lt3 st3 v (by omega) (by omega) (by omega) with ⟨r, lt', st', lt2', st2', g1, g2⟩ | ⟨v', lt', st', lt2', st2', g1, g2⟩
      · refine Or.inl ⟨r, lt', st', lt2', st2', ?_, ?_⟩
        · rw [← g1]
          simp (disch := omega) only [f_X11_rests_33, f_X11_rests, b_X11_rests_88, b_X11_rests_33, b_X11_rests_18, b_X11_rests_0, h1X, na, nb, e1, neg_nI, lit_nI, nI_add, pk_mul, pk_sub, nI_clamp, inB_nI, gd_true, bnd_def, nI_leI, nI_ltI, nI_eq, nI_mI, mI_nI, nle_T, nle_F, nlt_T, nlt_F, neq_T, neq_F, ↓reduceIte, Nat.add_zero, Nat.zero_add, Nat.mul_zero, Nat.reduceAdd, Nat.reduceMul, Nat.reduceSub, ob1_e, ob2_e, ob3_e, ob4_e, ob6_e]
        · rw [← g2]
          simp (disch := omega) only [f_X12_rests_30, f_X12_rests, b_X12_rests_66, b_X12_rests_30, b_X12_rests_18, b_X12_rests_0, h1Y, e2, neg_nI, lit_nI, nI_add, pk_mul, pk_sub, nI_clamp, inB_nI, gd_true, bnd_def, nI_leI, nI_ltI, nI_eq, nI_mI, mI_nI, nle_T, nle_F, nlt_T, nlt_F, neq_T, neq_F, ↓reduceIte, Nat.add_zero, Nat.zero_add, Nat.mul_zero, Nat.reduceAdd, Nat.reduceMul, Nat.reduceSub, ob1_e, ob2_e, ob3_e, ob4_e, ob6_e]
      · refine Or.inr ⟨v', lt', st', lt2', st2', ?_, ?_⟩
        · rw [← g1]
          simp (disch := omega) only [f_X11_rests_33, f_X11_rests, b_X11_rests_88, b_X11_rests_33, b_X11_rests_18, b_X11_rests_0, h1X, na, nb, e1, neg_nI, lit_nI, nI_add, pk_mul, pk_sub, nI_clamp, inB_nI, gd_true, bnd_def, nI_leI, nI_ltI, nI_eq, nI_mI, mI_nI, nle_T, nle_F, nlt_T, nlt_F, neq_T, neq_F, ↓reduceIte, Nat.add_zero, Nat.zero_add, Nat.mul_zero, Nat.reduceAdd, Nat.reduceMul, Nat.reduceSub, ob1_e, ob2_e, ob3_e, ob4_e, ob6_e]
        · rw [← g2]
          simp (disch := omega) only [f_X12_rests_30, f_X12_rests, b_X12_rests_66, b_X12_rests_30, b_X12_rests_18, b_X12_rests_0, h1Y, e2, neg_nI, lit_nI, nI_add, pk_mul, pk_sub, nI_clamp, inB_nI, gd_true, bnd_def, nI_leI, nI_ltI, nI_eq, nI_mI, mI_nI, nle_T, nle_F, nlt_T, nlt_F, neq_T, neq_F, ↓reduceIte, Nat.add_zero, Nat.zero_add, Nat.mul_zero, Nat.reduceAdd, Nat.reduceMul, Nat.reduceSub, ob1_e, ob2_e, ob3_e, ob4_e, ob6_e]
    | true =>
      rw [bz_t] at e1 e2
      by_cases hv : v = i
      · refine Or.inl ⟨nI (10 * x + y), lt1, st1, lt3, st3, ?_, ?_⟩
        · simp (disch := omega) only [f_X11_rests_33, f_X11_rests, b_X11_rests_88, b_X11_rests_33, b_X11_rests_18, b_X11_rests_0, h1X, na, nb, e1, hv, neg_nI, lit_nI, nI_add, pk_mul, pk_sub, nI_clamp, inB_nI, gd_true, bnd_def, nI_leI, nI_ltI, nI_eq, nI_mI, mI_nI, nle_T, nle_F, nlt_T, nlt_F, neq_T, neq_F, ↓reduceIte, Nat.add_zero, Nat.zero_add, Nat.mul_zero, Nat.reduceAdd, Nat.reduceMul, Nat.reduceSub, ob1_e, ob2_e, ob3_e, ob4_e, ob6_e]
        · simp (disch := omega) only [f_X12_rests_30, f_X12_rests, b_X12_rests_66, b_X12_rests_30, b_X12_rests_18, b_X12_rests_0, h1Y, e2, hv, neg_nI, lit_nI, nI_add, pk_mul, pk_sub, nI_clamp, inB_nI, gd_true, bnd_def, nI_leI, nI_ltI, nI_eq, nI_mI, mI_nI, nle_T, nle_F, nlt_T, nlt_F, neq_T, neq_F, ↓reduceIte, Nat.add_zero, Nat.zero_add, Nat.mul_zero, Nat.reduceAdd, Nat.reduceMul, Nat.reduceSub, ob1_e, ob2_e, ob3_e, ob4_e, ob6_e]
      · rcases ih (y + 1) n n' lt1 st1 lt3 st3 (v + nI 1) (by omega) (by omega) (by omega) with ⟨r, lt', st', lt2', st2', g1, g2⟩ | ⟨v', lt', st', lt2', st2', g1, g2⟩
        · refine Or.inl ⟨r, lt', st', lt2', st2', ?_, ?_⟩
          · rw [← g1]
            simp (disch := omega) only [f_X11_rests_33, f_X11_rests, b_X11_rests_88, b_X11_rests_33, b_X11_rests_18, b_X11_rests_0, h1X, na, nb, e1, hv, neg_nI, lit_nI, nI_add, pk_mul, pk_sub, nI_clamp, inB_nI, gd_true, bnd_def, nI_leI, nI_ltI, nI_eq, nI_mI, mI_nI, nle_T, nle_F, nlt_T, nlt_F, neq_T, neq_F, ↓reduceIte, Nat.add_zero, Nat.zero_add, Nat.mul_zero, Nat.reduceAdd, Nat.reduceMul, Nat.reduceSub, ob1_e, ob2_e, ob3_e, ob4_e, ob6_e]
          · rw [← g2]
            simp (disch := omega) only [f_X12_rests_30, f_X12_rests, b_X12_rests_66, b_X12_rests_30, b_X12_rests_18, b_X12_rests_0, h1Y, e2, hv, neg_nI, lit_nI, nI_add, pk_mul, pk_sub, nI_clamp, inB_nI, gd_true, bnd_def, nI_leI, nI_ltI, nI_eq, nI_mI, mI_nI, nle_T, nle_F, nlt_T, nlt_F, neq_T, neq_F, ↓reduceIte, Nat.add_zero, Nat.zero_add, Nat.mul_zero, Nat.reduceAdd, Nat.reduceMul, Nat.reduceSub, ob1_e, ob2_e, ob3_e, ob4_e, ob6_e]
        · refine Or.inr ⟨v', lt', st', lt2', st2', ?_, ?_⟩
          · rw [← g1]
            simp (disch := omega) only [f_X11_rests_33, f_X11_rests, b_X11_rests_88, b_X11_rests_33, b_X11_rests_18, b_X11_rests_0, h1X, na, nb, e1, hv, neg_nI, lit_nI, nI_add, pk_mul, pk_sub, nI_clamp, inB_nI, gd_true, bnd_def, nI_leI, nI_ltI, nI_eq, nI_mI, mI_nI, nle_T, nle_F, nlt_T, nlt_F, neq_T, neq_F, ↓reduceIte, Nat.add_zero, Nat.zero_add, Nat.mul_zero, Nat.reduceAdd, Nat.reduceMul, Nat.reduceSub, ob1_e, ob2_e, ob3_e, ob4_e, ob6_e]
          · rw [← g2]
            simp (disch := omega) only [f_X12_rests_30, f_X12_rests, b_X12_rests_66, b_X12_rests_30, b_X12_rests_18, b_X12_rests_0, h1Y, e2, hv, neg_nI, lit_nI, nI_add, pk_mul, pk_sub, nI_clamp, inB_nI, gd_true, bnd_def, nI_leI, nI_ltI, nI_eq, nI_mI, mI_nI, nle_T, nle_F, nlt_T, nlt_F, neq_T, neq_F, ↓reduceIte, Nat.add_zero, Nat.zero_add, Nat.mul_zero, Nat.reduceAdd, Nat.reduceMul, Nat.reduceSub, ob1_e, ob2_e, ob3_e, ob4_e, ob6_e]
theorem rests_out (hX : RiseX R lh ll l0 l1 l2 l3) (hY : RiseY R mh mc mv mk mt ms mu) (hG : G ≤ 6) (hh : ∀ g, g < G → mg (4 * g) = th g) (hal : ∀ g, g < G → mg (4 * g + 3) = ta g) (h01 : ∀ g, g < G → th g = nI 0 ∨ th g = nI 1) (hN : RN G M c m) {i : Int32} : ∀ (j x n n' : Nat) (lt st lt2 st2 : Nat → Int32) (v : Int32), x + j = cnt th (nI 0) G → j < n → j < n' → ∃ r lt' st' lt2' st2', f_X11_rests_18 (nI G) th ta lh ll l0 l1 l2 l3 c n lt st i v (nI x) = some (r, lt', st') ∧ f_X12_rests_18 (nI G) mh mc mv mk mt ms mu mg m n' lt2 st2 i v (nI x) = some (r, lt2', st2') := by
  have h0X := sizeX_c (th := th) (h := nI 0) hG
  have h0Y := sizeY_c (th := th) (mg := mg) (h := nI 0) hG hh
  have c0 := cnt_le th (nI 0) G
  have c1 := cnt_le th (nI 1) G
  intro j
  induction j with
  | zero =>
    intro x n n' lt st lt2 st2 v hx h1 h2
    obtain ⟨n, rfl⟩ : ∃ q, n = q + 1 := ⟨n - 1, by omega⟩
    obtain ⟨n', rfl⟩ : ∃ q, n' = q + 1 := ⟨n' - 1, by omega⟩
    by_cases hi : i = mI 1
    · refine ⟨v, lt, st, lt2, st2, ?_, ?_⟩
      · simp (disch := omega) only [f_X11_rests_18, b_X11_rests_18, h0X, hi, neg_nI, lit_nI, nI_add, pk_mul, pk_sub, nI_clamp, inB_nI, gd_true, bnd_def, nI_leI, nI_ltI, nI_eq, nI_mI, mI_nI, nle_T, nle_F, nlt_T, nlt_F, neq_T, neq_F, ↓reduceIte, Nat.add_zero, Nat.zero_add, Nat.mul_zero, Nat.reduceAdd, Nat.reduceMul, Nat.reduceSub, ob1_e, ob2_e, ob3_e, ob4_e, ob6_e]
      · simp (disch := omega) only [f_X12_rests_18, b_X12_rests_18, h0Y, hi, neg_nI, lit_nI, nI_add, pk_mul, pk_sub, nI_clamp, inB_nI, gd_true, bnd_def, nI_leI, nI_ltI, nI_eq, nI_mI, mI_nI, nle_T, nle_F, nlt_T, nlt_F, neq_T, neq_F, ↓reduceIte, Nat.add_zero, Nat.zero_add, Nat.mul_zero, Nat.reduceAdd, Nat.reduceMul, Nat.reduceSub, ob1_e, ob2_e, ob3_e, ob4_e, ob6_e]
    · refine ⟨mI 1, lt, st, lt2, st2, ?_, ?_⟩
      · simp (disch := omega) only [f_X11_rests_18, b_X11_rests_18, h0X, hi, neg_nI, lit_nI, nI_add, pk_mul, pk_sub, nI_clamp, inB_nI, gd_true, bnd_def, nI_leI, nI_ltI, nI_eq, nI_mI, mI_nI, nle_T, nle_F, nlt_T, nlt_F, neq_T, neq_F, ↓reduceIte, Nat.add_zero, Nat.zero_add, Nat.mul_zero, Nat.reduceAdd, Nat.reduceMul, Nat.reduceSub, ob1_e, ob2_e, ob3_e, ob4_e, ob6_e]
      · simp (disch := omega) only [f_X12_rests_18, b_X12_rests_18, h0Y, hi, neg_nI, lit_nI, nI_add, pk_mul, pk_sub, nI_clamp, inB_nI, gd_true, bnd_def, nI_leI, nI_ltI, nI_eq, nI_mI, mI_nI, nle_T, nle_F, nlt_T, nlt_F, neq_T, neq_F, ↓reduceIte, Nat.add_zero, Nat.zero_add, Nat.mul_zero, Nat.reduceAdd, Nat.reduceMul, Nat.reduceSub, ob1_e, ob2_e, ob3_e, ob4_e, ob6_e]
  | succ j ih =>
    intro x n n' lt st lt2 st2 v hx h1 h2
    obtain ⟨n, rfl⟩ : ∃ q, n = q + 1 := ⟨n - 1, by omega⟩
    obtain ⟨n', rfl⟩ : ∃ q, n' = q + 1 := ⟨n' - 1, by omega⟩
    rcases rests_in hX hY hG hh hal h01 hN (i := i) (x := x) (by omega) (kx := f_X11_rests_18 (nI G) th ta lh ll l0 l1 l2 l3 c n) (ky := f_X12_rests_18 (nI G) mh mc mv mk mt ms mu mg m n') (cnt th (nI 1) G) 0 fu fu lt st lt2 st2 v (by omega) (by have := fu_le; omega) (by have := fu_le; omega) with ⟨r, lt', st', lt2', st2', g1, g2⟩ | ⟨v', lt1, st1, lt3, st3, g1, g2⟩
    · refine ⟨r, lt', st', lt2', st2', ?_, ?_⟩
      · rw [← g1]
        simp (disch := omega) only [f_X11_rests_18, b_X11_rests_18, h0X, neg_nI, lit_nI, nI_add, pk_mul, pk_sub, nI_clamp, inB_nI, gd_true, bnd_def, nI_leI, nI_ltI, nI_eq, nI_mI, mI_nI, nle_T, nle_F, nlt_T, nlt_F, neq_T, neq_F, ↓reduceIte, Nat.add_zero, Nat.zero_add, Nat.mul_zero, Nat.reduceAdd, Nat.reduceMul, Nat.reduceSub, ob1_e, ob2_e, ob3_e, ob4_e, ob6_e]
      · rw [← g2]
        simp (disch := omega) only [f_X12_rests_18, b_X12_rests_18, h0Y, neg_nI, lit_nI, nI_add, pk_mul, pk_sub, nI_clamp, inB_nI, gd_true, bnd_def, nI_leI, nI_ltI, nI_eq, nI_mI, mI_nI, nle_T, nle_F, nlt_T, nlt_F, neq_T, neq_F, ↓reduceIte, Nat.add_zero, Nat.zero_add, Nat.mul_zero, Nat.reduceAdd, Nat.reduceMul, Nat.reduceSub, ob1_e, ob2_e, ob3_e, ob4_e, ob6_e]
    · obtain ⟨r, lt', st', lt2', st2', e1, e2⟩ := ih (x + 1) n n' lt1 st1 lt3 st3 v' (by omega) (by omega) (by omega)
      refine ⟨r, lt', st', lt2', st2', ?_, ?_⟩
      · rw [← e1, ← g1]
        simp (disch := omega) only [f_X11_rests_18, b_X11_rests_18, h0X, neg_nI, lit_nI, nI_add, pk_mul, pk_sub, nI_clamp, inB_nI, gd_true, bnd_def, nI_leI, nI_ltI, nI_eq, nI_mI, mI_nI, nle_T, nle_F, nlt_T, nlt_F, neq_T, neq_F, ↓reduceIte, Nat.add_zero, Nat.zero_add, Nat.mul_zero, Nat.reduceAdd, Nat.reduceMul, Nat.reduceSub, ob1_e, ob2_e, ob3_e, ob4_e, ob6_e]
      · rw [← e2, ← g2]
        simp (disch := omega) only [f_X12_rests_18, b_X12_rests_18, h0Y, neg_nI, lit_nI, nI_add, pk_mul, pk_sub, nI_clamp, inB_nI, gd_true, bnd_def, nI_leI, nI_ltI, nI_eq, nI_mI, mI_nI, nle_T, nle_F, nlt_T, nlt_F, neq_T, neq_F, ↓reduceIte, Nat.add_zero, Nat.zero_add, Nat.mul_zero, Nat.reduceAdd, Nat.reduceMul, Nat.reduceSub, ob1_e, ob2_e, ob3_e, ob4_e, ob6_e]
theorem s_rests (hX : RiseX R lh ll l0 l1 l2 l3) (hY : RiseY R mh mc mv mk mt ms mu) (hG : G ≤ 6) (hh : ∀ g, g < G → mg (4 * g) = th g) (hal : ∀ g, g < G → mg (4 * g + 3) = ta g) (h01 : ∀ g, g < G → th g = nI 0 ∨ th g = nI 1) (hN : RN G M c m) (lt st lt2 st2 : Nat → Int32) (i : Int32) : ∃ r lt' st' lt2' st2', f_X11_rests (nI G) th ta lh ll l0 l1 l2 l3 c lt st i = some (r, lt', st') ∧ f_X12_rests (nI G) mh mc mv mk mt ms mu mg m lt2 st2 i = some (r, lt2', st2') := by
  have c0 := cnt_le th (nI 0) G
  by_cases g0 : G = 0
  · refine ⟨mI 1, lt, st, lt2, st2, ?_, ?_⟩
    · simp (disch := omega) only [f_X11_rests, b_X11_rests_0, noPeace_y g0, neg_nI, lit_nI, nI_add, pk_mul, pk_sub, nI_clamp, inB_nI, gd_true, bnd_def, nI_leI, nI_ltI, nI_eq, nI_mI, mI_nI, nle_T, nle_F, nlt_T, nlt_F, neq_T, neq_F, ↓reduceIte, Nat.add_zero, Nat.zero_add, Nat.mul_zero, Nat.reduceAdd, Nat.reduceMul, Nat.reduceSub, ob1_e, ob2_e, ob3_e, ob4_e, ob6_e]
    · simp (disch := omega) only [f_X12_rests, b_X12_rests_0, neg_nI, lit_nI, nI_add, pk_mul, pk_sub, nI_clamp, inB_nI, gd_true, bnd_def, nI_leI, nI_ltI, nI_eq, nI_mI, mI_nI, nle_T, nle_F, nlt_T, nlt_F, neq_T, neq_F, ↓reduceIte, Nat.add_zero, Nat.zero_add, Nat.mul_zero, Nat.reduceAdd, Nat.reduceMul, Nat.reduceSub, ob1_e, ob2_e, ob3_e, ob4_e, ob6_e]
  · by_cases hi : mI 1 ≤ i
    · obtain ⟨r, lt', st', lt2', st2', e1, e2⟩ := rests_out hX hY hG hh hal h01 hN (i := i) (cnt th (nI 0) G) 0 fu fu lt st lt2 st2 (nI 0) (by omega) (by have := fu_le; omega) (by have := fu_le; omega)
      refine ⟨r, lt', st', lt2', st2', ?_, ?_⟩
      · rw [← e1]
        simp (disch := omega) only [f_X11_rests, b_X11_rests_0, noPeace_n, hi, neg_nI, lit_nI, nI_add, pk_mul, pk_sub, nI_clamp, inB_nI, gd_true, bnd_def, nI_leI, nI_ltI, nI_eq, nI_mI, mI_nI, nle_T, nle_F, nlt_T, nlt_F, neq_T, neq_F, ↓reduceIte, Nat.add_zero, Nat.zero_add, Nat.mul_zero, Nat.reduceAdd, Nat.reduceMul, Nat.reduceSub, ob1_e, ob2_e, ob3_e, ob4_e, ob6_e]
      · rw [← e2]
        simp (disch := omega) only [f_X12_rests, b_X12_rests_0, hi, neg_nI, lit_nI, nI_add, pk_mul, pk_sub, nI_clamp, inB_nI, gd_true, bnd_def, nI_leI, nI_ltI, nI_eq, nI_mI, mI_nI, nle_T, nle_F, nlt_T, nlt_F, neq_T, neq_F, ↓reduceIte, Nat.add_zero, Nat.zero_add, Nat.mul_zero, Nat.reduceAdd, Nat.reduceMul, Nat.reduceSub, ob1_e, ob2_e, ob3_e, ob4_e, ob6_e]
    · refine ⟨mI 1, lt, st, lt2, st2, ?_, ?_⟩
      · simp (disch := omega) only [f_X11_rests, b_X11_rests_0, noPeace_n, hi, neg_nI, lit_nI, nI_add, pk_mul, pk_sub, nI_clamp, inB_nI, gd_true, bnd_def, nI_leI, nI_ltI, nI_eq, nI_mI, mI_nI, nle_T, nle_F, nlt_T, nlt_F, neq_T, neq_F, ↓reduceIte, Nat.add_zero, Nat.zero_add, Nat.mul_zero, Nat.reduceAdd, Nat.reduceMul, Nat.reduceSub, ob1_e, ob2_e, ob3_e, ob4_e, ob6_e]
      · simp (disch := omega) only [f_X12_rests, b_X12_rests_0, hi, neg_nI, lit_nI, nI_add, pk_mul, pk_sub, nI_clamp, inB_nI, gd_true, bnd_def, nI_leI, nI_ltI, nI_eq, nI_mI, mI_nI, nle_T, nle_F, nlt_T, nlt_F, neq_T, neq_F, ↓reduceIte, Nat.add_zero, Nat.zero_add, Nat.mul_zero, Nat.reduceAdd, Nat.reduceMul, Nat.reduceSub, ob1_e, ob2_e, ob3_e, ob4_e, ob6_e]
end RT
end
section
/-! shares, the most, allies -/
theorem or0 (v : Int32) : v ||| nI 0 = v := Int32.or_zero
theorem add0 (v : Int32) : v + nI 0 = v := Int32.add_zero v
theorem nzB_t {v : Int32} (h : ¬ v = nI 0) : nzB v = true := decide_eq_true h
def frF (th c : Nat → Int32) (h : Int32) : Nat → Nat → Int32 → Int32
  | 0, _, v => v
  | j + 1, k, v => frF th c h j (k + 1) (if th k = h then v + c (36 + k) else v)
def alF (c : Nat → Int32) : Nat → Nat → Int32 → Int32
  | 0, _, v => v
  | j + 1, k, v => alF c j (k + 1) (v + c (36 + k))
theorem frF_sum {th c : Nat → Int32} : ∀ (j k : Nat) (a b : Int32), (∀ g, k ≤ g → g < k + j → th g = nI 0 ∨ th g = nI 1) → frF th c (nI 0) j k a + frF th c (nI 1) j k b = alF c j k (a + b)
  | 0, _, _, _, _ => rfl
  | j + 1, k, a, b, h => by
    unfold frF alF
    have n01 : ¬ nI 1 = nI 0 := by decide
    have n10 : ¬ nI 0 = nI 1 := by decide
    rcases h k (by omega) (by omega) with e | e
    · rw [if_pos e, if_neg (fun z => n10 (e.symm.trans z)), frF_sum j (k + 1) _ _ (fun g h1 h2 => h g (by omega) (by omega))]
      congr 1
      rw [Int32.add_assoc, Int32.add_assoc, Int32.add_comm (c (36 + k))]
    · rw [if_neg (fun z => n01 (e.symm.trans z)), if_pos e, frF_sum j (k + 1) _ _ (fun g h1 h2 => h g (by omega) (by omega)), Int32.add_assoc]
section MO
variable {G M : Nat} {th ta tw tn mg mm c m : Nat → Int32}
theorem freeOf_l {h : Int32} (hG : G ≤ 6) : ∀ (j k n : Nat) (v : Int32), k + j = G → j < n → f_X9_freeOf_4 (nI G) th c n h v (nI k) = some (frF th c h j k v) := by
  intro j
  induction j with
  | zero =>
    intro k n v hk h1
    obtain ⟨n, rfl⟩ : ∃ q, n = q + 1 := ⟨n - 1, by omega⟩
    simp (disch := omega) only [f_X9_freeOf_4, f_X9_freeOf, b_X9_freeOf_36, b_X9_freeOf_4, b_X9_freeOf_0, frF, neg_nI, lit_nI, nI_add, pk_mul, pk_sub, nI_clamp, inB_nI, gd_true, bnd_def, nI_leI, nI_ltI, nI_eq, nI_mI, mI_nI, nle_T, nle_F, nlt_T, nlt_F, neq_T, neq_F, ↓reduceIte, Nat.add_zero, Nat.zero_add, Nat.mul_zero, Nat.reduceAdd, Nat.reduceMul, Nat.reduceSub, ob1_e, ob2_e, ob3_e, ob4_e, ob6_e]
  | succ j ih =>
    intro k n v hk h1
    obtain ⟨n, rfl⟩ : ∃ q, n = q + 1 := ⟨n - 1, by omega⟩
    by_cases e : th k = h
    · simp (disch := omega) only [f_X9_freeOf_4, f_X9_freeOf, b_X9_freeOf_36, b_X9_freeOf_4, b_X9_freeOf_0, frF, e, free_c, ih (k + 1) n _ (by omega) (by omega), neg_nI, lit_nI, nI_add, pk_mul, pk_sub, nI_clamp, inB_nI, gd_true, bnd_def, nI_leI, nI_ltI, nI_eq, nI_mI, mI_nI, nle_T, nle_F, nlt_T, nlt_F, neq_T, neq_F, ↓reduceIte, Nat.add_zero, Nat.zero_add, Nat.mul_zero, Nat.reduceAdd, Nat.reduceMul, Nat.reduceSub, ob1_e, ob2_e, ob3_e, ob4_e, ob6_e]
    · simp (disch := omega) only [f_X9_freeOf_4, f_X9_freeOf, b_X9_freeOf_36, b_X9_freeOf_4, b_X9_freeOf_0, frF, e, ih (k + 1) n _ (by omega) (by omega), neg_nI, lit_nI, nI_add, pk_mul, pk_sub, nI_clamp, inB_nI, gd_true, bnd_def, nI_leI, nI_ltI, nI_eq, nI_mI, mI_nI, nle_T, nle_F, nlt_T, nlt_F, neq_T, neq_F, ↓reduceIte, Nat.add_zero, Nat.zero_add, Nat.mul_zero, Nat.reduceAdd, Nat.reduceMul, Nat.reduceSub, ob1_e, ob2_e, ob3_e, ob4_e, ob6_e]
theorem freeOf_c {h : Int32} (hG : G ≤ 6) : f_X9_freeOf (nI G) th c h = some (frF th c h G 0 (nI 0)) := freeOf_l hG G 0 fu (nI 0) (by omega) (by have := fu_le; omega)
theorem sharesY_l {h cc : Int32} (hG : G ≤ 6) (hh : ∀ g, g < G → mg (4 * g) = th g) (hN : RN G M c m) : ∀ (j k n : Nat) (al it : Int32), k + j = G → j < n → f_X12_shares_37 (nI G) mg m n h cc al it (nI k) = some (if alF c j k al = nI 0 then nI 0 else cc * frF th c h j k it / alF c j k al) := by
  intro j
  induction j with
  | zero =>
    intro k n al it hk h1
    obtain ⟨n, rfl⟩ : ∃ q, n = q + 1 := ⟨n - 1, by omega⟩
    by_cases e : al = nI 0
    · simp (disch := omega) only [f_X12_shares_37, f_X12_shares, b_X12_shares_86, b_X12_shares_37, b_X12_shares_0, frF, alF, e, neg_nI, lit_nI, nI_add, pk_mul, pk_sub, nI_clamp, inB_nI, gd_true, bnd_def, nI_leI, nI_ltI, nI_eq, nI_mI, mI_nI, nle_T, nle_F, nlt_T, nlt_F, neq_T, neq_F, ↓reduceIte, Nat.add_zero, Nat.zero_add, Nat.mul_zero, Nat.reduceAdd, Nat.reduceMul, Nat.reduceSub, ob1_e, ob2_e, ob3_e, ob4_e, ob6_e]
    · have e2 := nzB_t e
      simp (disch := omega) only [f_X12_shares_37, f_X12_shares, b_X12_shares_86, b_X12_shares_37, b_X12_shares_0, frF, alF, e, e2, neg_nI, lit_nI, nI_add, pk_mul, pk_sub, nI_clamp, inB_nI, gd_true, bnd_def, nI_leI, nI_ltI, nI_eq, nI_mI, mI_nI, nle_T, nle_F, nlt_T, nlt_F, neq_T, neq_F, ↓reduceIte, Nat.add_zero, Nat.zero_add, Nat.mul_zero, Nat.reduceAdd, Nat.reduceMul, Nat.reduceSub, ob1_e, ob2_e, ob3_e, ob4_e, ob6_e]
  | succ j ih =>
    intro k n al it hk h1
    obtain ⟨n, rfl⟩ : ∃ q, n = q + 1 := ⟨n - 1, by omega⟩
    have g1 := hh k (by omega)
    have f1 : m (36 + k) = c (36 + k) := hN _ (by omega)
    by_cases e : th k = h
    · have e2 : frF th c h (j + 1) k it = frF th c h j (k + 1) (it + c (36 + k)) := by rw [frF, if_pos e]
      rw [e2, alF, ← ih (k + 1) n _ _ (by omega) (by omega)]
      simp (disch := omega) only [f_X12_shares_37, f_X12_shares, b_X12_shares_86, b_X12_shares_37, b_X12_shares_0, of_c, g1, f1, e, neg_nI, lit_nI, nI_add, pk_mul, pk_sub, nI_clamp, inB_nI, gd_true, bnd_def, nI_leI, nI_ltI, nI_eq, nI_mI, mI_nI, nle_T, nle_F, nlt_T, nlt_F, neq_T, neq_F, ↓reduceIte, Nat.add_zero, Nat.zero_add, Nat.mul_zero, Nat.reduceAdd, Nat.reduceMul, Nat.reduceSub, ob1_e, ob2_e, ob3_e, ob4_e, ob6_e]
    · have e2 : frF th c h (j + 1) k it = frF th c h j (k + 1) it := by rw [frF, if_neg e]
      rw [e2, alF, ← ih (k + 1) n _ _ (by omega) (by omega)]
      simp (disch := omega) only [f_X12_shares_37, f_X12_shares, b_X12_shares_86, b_X12_shares_37, b_X12_shares_0, of_c, g1, f1, e, add0, neg_nI, lit_nI, nI_add, pk_mul, pk_sub, nI_clamp, inB_nI, gd_true, bnd_def, nI_leI, nI_ltI, nI_eq, nI_mI, mI_nI, nle_T, nle_F, nlt_T, nlt_F, neq_T, neq_F, ↓reduceIte, Nat.add_zero, Nat.zero_add, Nat.mul_zero, Nat.reduceAdd, Nat.reduceMul, Nat.reduceSub, ob1_e, ob2_e, ob3_e, ob4_e, ob6_e]
theorem s_shares (hG : G ≤ 6) (hh : ∀ g, g < G → mg (4 * g) = th g) (h01 : ∀ g, g < G → th g = nI 0 ∨ th g = nI 1) (hN : RN G M c m) (x v : Int32) : ∃ r, f_X11_shares (nI G) th c x v = some r ∧ f_X12_shares (nI G) mg m x v = some r := by
  by_cases g0 : G = 0
  · refine ⟨mI 1, ?_, ?_⟩
    · simp (disch := omega) only [f_X11_shares, b_X11_shares_0, noPeace_y g0, neg_nI, lit_nI, nI_add, pk_mul, pk_sub, nI_clamp, inB_nI, gd_true, bnd_def, nI_leI, nI_ltI, nI_eq, nI_mI, mI_nI, nle_T, nle_F, nlt_T, nlt_F, neq_T, neq_F, ↓reduceIte, Nat.add_zero, Nat.zero_add, Nat.mul_zero, Nat.reduceAdd, Nat.reduceMul, Nat.reduceSub, ob1_e, ob2_e, ob3_e, ob4_e, ob6_e]
    · simp (disch := omega) only [f_X12_shares, b_X12_shares_86, b_X12_shares_37, b_X12_shares_0, neg_nI, lit_nI, nI_add, pk_mul, pk_sub, nI_clamp, inB_nI, gd_true, bnd_def, nI_leI, nI_ltI, nI_eq, nI_mI, mI_nI, nle_T, nle_F, nlt_T, nlt_F, neq_T, neq_F, ↓reduceIte, Nat.add_zero, Nat.zero_add, Nat.mul_zero, Nat.reduceAdd, Nat.reduceMul, Nat.reduceSub, ob1_e, ob2_e, ob3_e, ob4_e, ob6_e]
  · rcases rng x 1 (by omega) with ⟨h, hle, rfl⟩ | k0 | ⟨k0, k1, k2⟩
    · rcases rng v 999 (by omega) with ⟨w, hw, rfl⟩ | k0 | ⟨k0, k1, k2⟩
      · have hy := sharesY_l (h := nI h) (cc := nI w) hG hh hN G 0 fu (nI 0) (nI 0) (by omega) (by have := fu_le; omega)
        have hs := frF_sum (th := th) (c := c) G 0 (nI 0) (nI 0) (fun g _ hg => h01 g (by omega))
        rw [add0] at hs
        refine ⟨if alF c G 0 (nI 0) = nI 0 then nI 0 else nI w * frF th c (nI h) G 0 (nI 0) / alF c G 0 (nI 0), ?_, ?_⟩
        · by_cases e : alF c G 0 (nI 0) = nI 0
          · rw [if_pos e]
            simp (disch := omega) only [f_X11_shares, b_X11_shares_0, noPeace_n, freeOf_c hG, hs, e, neg_nI, lit_nI, nI_add, pk_mul, pk_sub, nI_clamp, inB_nI, gd_true, bnd_def, nI_leI, nI_ltI, nI_eq, nI_mI, mI_nI, nle_T, nle_F, nlt_T, nlt_F, neq_T, neq_F, ↓reduceIte, Nat.add_zero, Nat.zero_add, Nat.mul_zero, Nat.reduceAdd, Nat.reduceMul, Nat.reduceSub, ob1_e, ob2_e, ob3_e, ob4_e, ob6_e]
          · rw [if_neg e]
            have e2 := nzB_t e
            simp (disch := omega) only [f_X11_shares, b_X11_shares_0, noPeace_n, freeOf_c hG, hs, e, e2, neg_nI, lit_nI, nI_add, pk_mul, pk_sub, nI_clamp, inB_nI, gd_true, bnd_def, nI_leI, nI_ltI, nI_eq, nI_mI, mI_nI, nle_T, nle_F, nlt_T, nlt_F, neq_T, neq_F, ↓reduceIte, Nat.add_zero, Nat.zero_add, Nat.mul_zero, Nat.reduceAdd, Nat.reduceMul, Nat.reduceSub, ob1_e, ob2_e, ob3_e, ob4_e, ob6_e]
        · rw [← hy]
          simp (disch := omega) only [f_X12_shares, b_X12_shares_86, b_X12_shares_37, b_X12_shares_0, in_c, neg_nI, lit_nI, nI_add, pk_mul, pk_sub, nI_clamp, inB_nI, gd_true, bnd_def, nI_leI, nI_ltI, nI_eq, nI_mI, mI_nI, nle_T, nle_F, nlt_T, nlt_F, neq_T, neq_F, ↓reduceIte, Nat.add_zero, Nat.zero_add, Nat.mul_zero, Nat.reduceAdd, Nat.reduceMul, Nat.reduceSub, ob1_e, ob2_e, ob3_e, ob4_e, ob6_e]
      · refine ⟨mI 1, ?_, ?_⟩
        · simp (disch := omega) only [f_X11_shares, b_X11_shares_0, noPeace_n, k0, neg_nI, lit_nI, nI_add, pk_mul, pk_sub, nI_clamp, inB_nI, gd_true, bnd_def, nI_leI, nI_ltI, nI_eq, nI_mI, mI_nI, nle_T, nle_F, nlt_T, nlt_F, neq_T, neq_F, ↓reduceIte, Nat.add_zero, Nat.zero_add, Nat.mul_zero, Nat.reduceAdd, Nat.reduceMul, Nat.reduceSub, ob1_e, ob2_e, ob3_e, ob4_e, ob6_e]
        · simp (disch := omega) only [f_X12_shares, b_X12_shares_86, b_X12_shares_37, b_X12_shares_0, in_c, in_lo (hi := nI 999) k0, neg_nI, lit_nI, nI_add, pk_mul, pk_sub, nI_clamp, inB_nI, gd_true, bnd_def, nI_leI, nI_ltI, nI_eq, nI_mI, mI_nI, nle_T, nle_F, nlt_T, nlt_F, neq_T, neq_F, ↓reduceIte, Nat.add_zero, Nat.zero_add, Nat.mul_zero, Nat.reduceAdd, Nat.reduceMul, Nat.reduceSub, ob1_e, ob2_e, ob3_e, ob4_e, ob6_e]
      · refine ⟨mI 1, ?_, ?_⟩
        · simp (disch := omega) only [f_X11_shares, b_X11_shares_0, noPeace_n, k0, k2, neg_nI, lit_nI, nI_add, pk_mul, pk_sub, nI_clamp, inB_nI, gd_true, bnd_def, nI_leI, nI_ltI, nI_eq, nI_mI, mI_nI, nle_T, nle_F, nlt_T, nlt_F, neq_T, neq_F, ↓reduceIte, Nat.add_zero, Nat.zero_add, Nat.mul_zero, Nat.reduceAdd, Nat.reduceMul, Nat.reduceSub, ob1_e, ob2_e, ob3_e, ob4_e, ob6_e]
        · simp (disch := omega) only [f_X12_shares, b_X12_shares_86, b_X12_shares_37, b_X12_shares_0, in_c, in_hi (lo := nI 0) k1, neg_nI, lit_nI, nI_add, pk_mul, pk_sub, nI_clamp, inB_nI, gd_true, bnd_def, nI_leI, nI_ltI, nI_eq, nI_mI, mI_nI, nle_T, nle_F, nlt_T, nlt_F, neq_T, neq_F, ↓reduceIte, Nat.add_zero, Nat.zero_add, Nat.mul_zero, Nat.reduceAdd, Nat.reduceMul, Nat.reduceSub, ob1_e, ob2_e, ob3_e, ob4_e, ob6_e]
    · refine ⟨mI 1, ?_, ?_⟩
      · simp (disch := omega) only [f_X11_shares, b_X11_shares_0, noPeace_n, k0, neg_nI, lit_nI, nI_add, pk_mul, pk_sub, nI_clamp, inB_nI, gd_true, bnd_def, nI_leI, nI_ltI, nI_eq, nI_mI, mI_nI, nle_T, nle_F, nlt_T, nlt_F, neq_T, neq_F, ↓reduceIte, Nat.add_zero, Nat.zero_add, Nat.mul_zero, Nat.reduceAdd, Nat.reduceMul, Nat.reduceSub, ob1_e, ob2_e, ob3_e, ob4_e, ob6_e]
      · simp (disch := omega) only [f_X12_shares, b_X12_shares_86, b_X12_shares_37, b_X12_shares_0, in_lo (hi := nI 1) k0, neg_nI, lit_nI, nI_add, pk_mul, pk_sub, nI_clamp, inB_nI, gd_true, bnd_def, nI_leI, nI_ltI, nI_eq, nI_mI, mI_nI, nle_T, nle_F, nlt_T, nlt_F, neq_T, neq_F, ↓reduceIte, Nat.add_zero, Nat.zero_add, Nat.mul_zero, Nat.reduceAdd, Nat.reduceMul, Nat.reduceSub, ob1_e, ob2_e, ob3_e, ob4_e, ob6_e]
    · refine ⟨mI 1, ?_, ?_⟩
      · simp (disch := omega) only [f_X11_shares, b_X11_shares_0, noPeace_n, k0, k1, neg_nI, lit_nI, nI_add, pk_mul, pk_sub, nI_clamp, inB_nI, gd_true, bnd_def, nI_leI, nI_ltI, nI_eq, nI_mI, mI_nI, nle_T, nle_F, nlt_T, nlt_F, neq_T, neq_F, ↓reduceIte, Nat.add_zero, Nat.zero_add, Nat.mul_zero, Nat.reduceAdd, Nat.reduceMul, Nat.reduceSub, ob1_e, ob2_e, ob3_e, ob4_e, ob6_e]
      · simp (disch := omega) only [f_X12_shares, b_X12_shares_86, b_X12_shares_37, b_X12_shares_0, in_hi (lo := nI 0) k1, neg_nI, lit_nI, nI_add, pk_mul, pk_sub, nI_clamp, inB_nI, gd_true, bnd_def, nI_leI, nI_ltI, nI_eq, nI_mI, mI_nI, nle_T, nle_F, nlt_T, nlt_F, neq_T, neq_F, ↓reduceIte, Nat.add_zero, Nat.zero_add, Nat.mul_zero, Nat.reduceAdd, Nat.reduceMul, Nat.reduceSub, ob1_e, ob2_e, ob3_e, ob4_e, ob6_e]
theorem s_allies (hG : G ≤ 6) (hh : ∀ g, g < G → mg (4 * g) = th g) (ha : ∀ g, g < G → mg (4 * g + 3) = ta g) (x : Int32) : ∃ r, f_X11_allies (nI G) th ta x = some r ∧ f_X12_allies (nI G) mg x = some r := by
  rcases glove_or x hG with ⟨g, hg, rfl⟩ | ⟨q1, q2⟩
  · have lk : ∀ (j k n n' : Nat) (v : Int32), k + j = G → j < n → j < n' → ∃ r, f_X11_allies_17 (nI G) th ta n (nI g) v (nI k) = some r ∧ f_X12_allies_14 (nI G) mg n' (nI g) v (nI k) = some r := by
      intro j
      induction j with
      | zero =>
        intro k n n' v hk h1 h2
        obtain ⟨n, rfl⟩ : ∃ q, n = q + 1 := ⟨n - 1, by omega⟩
        obtain ⟨n', rfl⟩ : ∃ q, n' = q + 1 := ⟨n' - 1, by omega⟩
        exact ⟨v, by simp (disch := omega) only [f_X11_allies_17, f_X11_allies, b_X11_allies_59, b_X11_allies_17, b_X11_allies_0, neg_nI, lit_nI, nI_add, pk_mul, pk_sub, nI_clamp, inB_nI, gd_true, bnd_def, nI_leI, nI_ltI, nI_eq, nI_mI, mI_nI, nle_T, nle_F, nlt_T, nlt_F, neq_T, neq_F, ↓reduceIte, Nat.add_zero, Nat.zero_add, Nat.mul_zero, Nat.reduceAdd, Nat.reduceMul, Nat.reduceSub, ob1_e, ob2_e, ob3_e, ob4_e, ob6_e], by simp (disch := omega) only [f_X12_allies_14, f_X12_allies, b_X12_allies_48, b_X12_allies_47, b_X12_allies_14, b_X12_allies_0, neg_nI, lit_nI, nI_add, pk_mul, pk_sub, nI_clamp, inB_nI, gd_true, bnd_def, nI_leI, nI_ltI, nI_eq, nI_mI, mI_nI, nle_T, nle_F, nlt_T, nlt_F, neq_T, neq_F, ↓reduceIte, Nat.add_zero, Nat.zero_add, Nat.mul_zero, Nat.reduceAdd, Nat.reduceMul, Nat.reduceSub, ob1_e, ob2_e, ob3_e, ob4_e, ob6_e]⟩
      | succ j ih =>
        intro k n n' v hk h1 h2
        obtain ⟨n, rfl⟩ : ∃ q, n = q + 1 := ⟨n - 1, by omega⟩
        obtain ⟨n', rfl⟩ : ∃ q, n' = q + 1 := ⟨n' - 1, by omega⟩
        have g1 := hh g hg
        have g2 := hh k (by omega)
        have a1 := ha g hg
        have a2 := ha k (by omega)
        by_cases ht : th g = th k
        · obtain ⟨r, e1, e2⟩ := ih (k + 1) n n' v (by omega) (by omega) (by omega)
          refine ⟨r, ?_, ?_⟩
          · rw [← e1]
            simp (disch := omega) only [f_X11_allies_17, f_X11_allies, b_X11_allies_59, b_X11_allies_17, b_X11_allies_0, unlike_c, ht, neg_nI, lit_nI, nI_add, pk_mul, pk_sub, nI_clamp, inB_nI, gd_true, bnd_def, nI_leI, nI_ltI, nI_eq, nI_mI, mI_nI, nle_T, nle_F, nlt_T, nlt_F, neq_T, neq_F, ↓reduceIte, Nat.add_zero, Nat.zero_add, Nat.mul_zero, Nat.reduceAdd, Nat.reduceMul, Nat.reduceSub, ob1_e, ob2_e, ob3_e, ob4_e, ob6_e]
          · rw [← e2]
            simp (disch := omega) only [f_X12_allies_14, f_X12_allies, b_X12_allies_48, b_X12_allies_47, b_X12_allies_14, b_X12_allies_0, areTwo_c, g1, g2, ht, or0, neg_nI, lit_nI, nI_add, pk_mul, pk_sub, nI_clamp, inB_nI, gd_true, bnd_def, nI_leI, nI_ltI, nI_eq, nI_mI, mI_nI, nle_T, nle_F, nlt_T, nlt_F, neq_T, neq_F, ↓reduceIte, Nat.add_zero, Nat.zero_add, Nat.mul_zero, Nat.reduceAdd, Nat.reduceMul, Nat.reduceSub, ob1_e, ob2_e, ob3_e, ob4_e, ob6_e]
        · by_cases hs : ta g = ta k
          · obtain ⟨r, e1, e2⟩ := ih (k + 1) n n' (v ||| ((1 : Int32) <<< (nI k &&& 31))) (by omega) (by omega) (by omega)
            refine ⟨r, ?_, ?_⟩
            · rw [← e1]
              simp (disch := omega) only [f_X11_allies_17, f_X11_allies, b_X11_allies_59, b_X11_allies_17, b_X11_allies_0, unlike_c, ht, sameAim_c, hs, neg_nI, lit_nI, nI_add, pk_mul, pk_sub, nI_clamp, inB_nI, gd_true, bnd_def, nI_leI, nI_ltI, nI_eq, nI_mI, mI_nI, nle_T, nle_F, nlt_T, nlt_F, neq_T, neq_F, ↓reduceIte, Nat.add_zero, Nat.zero_add, Nat.mul_zero, Nat.reduceAdd, Nat.reduceMul, Nat.reduceSub, ob1_e, ob2_e, ob3_e, ob4_e, ob6_e]
            · rw [← e2]
              simp (disch := omega) only [f_X12_allies_14, f_X12_allies, b_X12_allies_48, b_X12_allies_47, b_X12_allies_14, b_X12_allies_0, areTwo_c, g1, g2, ht, areAllies_c, a1, a2, hs, neg_nI, lit_nI, nI_add, pk_mul, pk_sub, nI_clamp, inB_nI, gd_true, bnd_def, nI_leI, nI_ltI, nI_eq, nI_mI, mI_nI, nle_T, nle_F, nlt_T, nlt_F, neq_T, neq_F, ↓reduceIte, Nat.add_zero, Nat.zero_add, Nat.mul_zero, Nat.reduceAdd, Nat.reduceMul, Nat.reduceSub, ob1_e, ob2_e, ob3_e, ob4_e, ob6_e]
          · obtain ⟨r, e1, e2⟩ := ih (k + 1) n n' v (by omega) (by omega) (by omega)
            refine ⟨r, ?_, ?_⟩
            · rw [← e1]
              simp (disch := omega) only [f_X11_allies_17, f_X11_allies, b_X11_allies_59, b_X11_allies_17, b_X11_allies_0, unlike_c, ht, sameAim_c, hs, neg_nI, lit_nI, nI_add, pk_mul, pk_sub, nI_clamp, inB_nI, gd_true, bnd_def, nI_leI, nI_ltI, nI_eq, nI_mI, mI_nI, nle_T, nle_F, nlt_T, nlt_F, neq_T, neq_F, ↓reduceIte, Nat.add_zero, Nat.zero_add, Nat.mul_zero, Nat.reduceAdd, Nat.reduceMul, Nat.reduceSub, ob1_e, ob2_e, ob3_e, ob4_e, ob6_e]
            · rw [← e2]
              simp (disch := omega) only [f_X12_allies_14, f_X12_allies, b_X12_allies_48, b_X12_allies_47, b_X12_allies_14, b_X12_allies_0, areTwo_c, g1, g2, ht, areAllies_c, a1, a2, hs, or0, neg_nI, lit_nI, nI_add, pk_mul, pk_sub, nI_clamp, inB_nI, gd_true, bnd_def, nI_leI, nI_ltI, nI_eq, nI_mI, mI_nI, nle_T, nle_F, nlt_T, nlt_F, neq_T, neq_F, ↓reduceIte, Nat.add_zero, Nat.zero_add, Nat.mul_zero, Nat.reduceAdd, Nat.reduceMul, Nat.reduceSub, ob1_e, ob2_e, ob3_e, ob4_e, ob6_e]
    obtain ⟨r, e1, e2⟩ := lk G 0 fu fu (nI 0) (by omega) (by have := fu_le; omega) (by have := fu_le; omega)
    refine ⟨r, ?_, ?_⟩
    · rw [← e1]
      simp (disch := omega) only [f_X11_allies, b_X11_allies_59, b_X11_allies_17, b_X11_allies_0, hasGlove_y, neg_nI, lit_nI, nI_add, pk_mul, pk_sub, nI_clamp, inB_nI, gd_true, bnd_def, nI_leI, nI_ltI, nI_eq, nI_mI, mI_nI, nle_T, nle_F, nlt_T, nlt_F, neq_T, neq_F, ↓reduceIte, Nat.add_zero, Nat.zero_add, Nat.mul_zero, Nat.reduceAdd, Nat.reduceMul, Nat.reduceSub, ob1_e, ob2_e, ob3_e, ob4_e, ob6_e]
    · rw [← e2]
      simp (disch := omega) only [f_X12_allies, b_X12_allies_48, b_X12_allies_47, b_X12_allies_14, b_X12_allies_0, isGlove_y, neg_nI, lit_nI, nI_add, pk_mul, pk_sub, nI_clamp, inB_nI, gd_true, bnd_def, nI_leI, nI_ltI, nI_eq, nI_mI, mI_nI, nle_T, nle_F, nlt_T, nlt_F, neq_T, neq_F, ↓reduceIte, Nat.add_zero, Nat.zero_add, Nat.mul_zero, Nat.reduceAdd, Nat.reduceMul, Nat.reduceSub, ob1_e, ob2_e, ob3_e, ob4_e, ob6_e]
  · refine ⟨mI 1, ?_, ?_⟩
    · simp (disch := omega) only [f_X11_allies, b_X11_allies_59, b_X11_allies_17, b_X11_allies_0, q1, neg_nI, lit_nI, nI_add, pk_mul, pk_sub, nI_clamp, inB_nI, gd_true, bnd_def, nI_leI, nI_ltI, nI_eq, nI_mI, mI_nI, nle_T, nle_F, nlt_T, nlt_F, neq_T, neq_F, ↓reduceIte, Nat.add_zero, Nat.zero_add, Nat.mul_zero, Nat.reduceAdd, Nat.reduceMul, Nat.reduceSub, ob1_e, ob2_e, ob3_e, ob4_e, ob6_e]
    · simp (disch := omega) only [f_X12_allies, b_X12_allies_48, b_X12_allies_47, b_X12_allies_14, b_X12_allies_0, q2, neg_nI, lit_nI, nI_add, pk_mul, pk_sub, nI_clamp, inB_nI, gd_true, bnd_def, nI_leI, nI_ltI, nI_eq, nI_mI, mI_nI, nle_T, nle_F, nlt_T, nlt_F, neq_T, neq_F, ↓reduceIte, Nat.add_zero, Nat.zero_add, Nat.mul_zero, Nat.reduceAdd, Nat.reduceMul, Nat.reduceSub, ob1_e, ob2_e, ob3_e, ob4_e, ob6_e]
theorem metSet_c (hG : G ≤ 6) (hN : RN G M c m) : f_X12_metSet (nI G) m = some (bbF (pMet c) G 0 (nI 0)) := by
  have lk : ∀ (j k n : Nat) (v : Int32), k + j = G → j < n → f_X12_metSet_4 (nI G) m n v (nI k) = some (bbF (pMet c) j k v) := by
    intro j
    induction j with
    | zero =>
      intro k n v hk h1
      obtain ⟨n, rfl⟩ : ∃ q, n = q + 1 := ⟨n - 1, by omega⟩
      simp (disch := omega) only [f_X12_metSet_4, f_X12_metSet, b_X12_metSet_28, b_X12_metSet_4, b_X12_metSet_0, bbF, neg_nI, lit_nI, nI_add, pk_mul, pk_sub, nI_clamp, inB_nI, gd_true, bnd_def, nI_leI, nI_ltI, nI_eq, nI_mI, mI_nI, nle_T, nle_F, nlt_T, nlt_F, neq_T, neq_F, ↓reduceIte, Nat.add_zero, Nat.zero_add, Nat.mul_zero, Nat.reduceAdd, Nat.reduceMul, Nat.reduceSub, ob1_e, ob2_e, ob3_e, ob4_e, ob6_e]
    | succ j ih =>
      intro k n v hk h1
      obtain ⟨n, rfl⟩ : ∃ q, n = q + 1 := ⟨n - 1, by omega⟩
      have f1 : m (54 + k) = c (54 + k) := hN _ (by omega)
      by_cases hs : c (54 + k) = mI 1
      · have hp : pMet c k = false := by unfold pMet; rw [decide_eq_false (fun q => q hs)]
        simp (disch := omega) only [f_X12_metSet_4, f_X12_metSet, b_X12_metSet_28, b_X12_metSet_4, b_X12_metSet_0, isFree_c, f1, hs, bbF, hp, or0, ih (k + 1) n _ (by omega) (by omega), Bool.false_eq_true, neg_nI, lit_nI, nI_add, pk_mul, pk_sub, nI_clamp, inB_nI, gd_true, bnd_def, nI_leI, nI_ltI, nI_eq, nI_mI, mI_nI, nle_T, nle_F, nlt_T, nlt_F, neq_T, neq_F, ↓reduceIte, Nat.add_zero, Nat.zero_add, Nat.mul_zero, Nat.reduceAdd, Nat.reduceMul, Nat.reduceSub, ob1_e, ob2_e, ob3_e, ob4_e, ob6_e]
      · have hp : pMet c k = true := by unfold pMet; rw [decide_eq_true hs]
        simp (disch := omega) only [f_X12_metSet_4, f_X12_metSet, b_X12_metSet_28, b_X12_metSet_4, b_X12_metSet_0, isFree_c, f1, hs, bbF, hp, ih (k + 1) n _ (by omega) (by omega), neg_nI, lit_nI, nI_add, pk_mul, pk_sub, nI_clamp, inB_nI, gd_true, bnd_def, nI_leI, nI_ltI, nI_eq, nI_mI, mI_nI, nle_T, nle_F, nlt_T, nlt_F, neq_T, neq_F, ↓reduceIte, Nat.add_zero, Nat.zero_add, Nat.mul_zero, Nat.reduceAdd, Nat.reduceMul, Nat.reduceSub, ob1_e, ob2_e, ob3_e, ob4_e, ob6_e]
  exact lk G 0 fu (nI 0) (by omega) (by have := fu_le; omega)
theorem signed_c (hM : M ≤ 5) (hN : RN G M c m) : ∃ r, f_X9_signedBits (nI M) c = some r ∧ f_X12_signedSet (nI M) m = some r := by
  have lk : ∀ (j k n n' : Nat) (v : Int32), k + j = M → j < n → j < n' → ∃ r, f_X9_signedBits_4 (nI M) c n v (nI k) = some r ∧ f_X12_signedSet_4 (nI M) m n' v (nI k) = some r := by
    intro j
    induction j with
    | zero =>
      intro k n n' v hk h1 h2
      obtain ⟨n, rfl⟩ : ∃ q, n = q + 1 := ⟨n - 1, by omega⟩
      obtain ⟨n', rfl⟩ : ∃ q, n' = q + 1 := ⟨n' - 1, by omega⟩
      exact ⟨v, by simp (disch := omega) only [f_X9_signedBits_4, f_X9_signedBits, b_X9_signedBits_30, b_X9_signedBits_4, b_X9_signedBits_0, neg_nI, lit_nI, nI_add, pk_mul, pk_sub, nI_clamp, inB_nI, gd_true, bnd_def, nI_leI, nI_ltI, nI_eq, nI_mI, mI_nI, nle_T, nle_F, nlt_T, nlt_F, neq_T, neq_F, ↓reduceIte, Nat.add_zero, Nat.zero_add, Nat.mul_zero, Nat.reduceAdd, Nat.reduceMul, Nat.reduceSub, ob1_e, ob2_e, ob3_e, ob4_e, ob6_e], by simp (disch := omega) only [f_X12_signedSet_4, f_X12_signedSet, b_X12_signedSet_33, b_X12_signedSet_4, b_X12_signedSet_0, neg_nI, lit_nI, nI_add, pk_mul, pk_sub, nI_clamp, inB_nI, gd_true, bnd_def, nI_leI, nI_ltI, nI_eq, nI_mI, mI_nI, nle_T, nle_F, nlt_T, nlt_F, neq_T, neq_F, ↓reduceIte, Nat.add_zero, Nat.zero_add, Nat.mul_zero, Nat.reduceAdd, Nat.reduceMul, Nat.reduceSub, ob1_e, ob2_e, ob3_e, ob4_e, ob6_e]⟩
    | succ j ih =>
      intro k n n' v hk h1 h2
      obtain ⟨n, rfl⟩ : ∃ q, n = q + 1 := ⟨n - 1, by omega⟩
      obtain ⟨n', rfl⟩ : ∃ q, n' = q + 1 := ⟨n' - 1, by omega⟩
      have f1 : m (60 + k) = c (60 + k) := hN _ (by omega)
      by_cases hs : c (60 + k) = mI 1
      · obtain ⟨r, e1, e2⟩ := ih (k + 1) n n' v (by omega) (by omega) (by omega)
        refine ⟨r, ?_, ?_⟩
        · rw [← e1]
          simp (disch := omega) only [f_X9_signedBits_4, f_X9_signedBits, b_X9_signedBits_30, b_X9_signedBits_4, b_X9_signedBits_0, signers_c, hs, neg_nI, lit_nI, nI_add, pk_mul, pk_sub, nI_clamp, inB_nI, gd_true, bnd_def, nI_leI, nI_ltI, nI_eq, nI_mI, mI_nI, nle_T, nle_F, nlt_T, nlt_F, neq_T, neq_F, ↓reduceIte, Nat.add_zero, Nat.zero_add, Nat.mul_zero, Nat.reduceAdd, Nat.reduceMul, Nat.reduceSub, ob1_e, ob2_e, ob3_e, ob4_e, ob6_e]
        · rw [← e2]
          simp (disch := omega) only [f_X12_signedSet_4, f_X12_signedSet, b_X12_signedSet_33, b_X12_signedSet_4, b_X12_signedSet_0, f1, hs, or0, neg_nI, lit_nI, nI_add, pk_mul, pk_sub, nI_clamp, inB_nI, gd_true, bnd_def, nI_leI, nI_ltI, nI_eq, nI_mI, mI_nI, nle_T, nle_F, nlt_T, nlt_F, neq_T, neq_F, ↓reduceIte, Nat.add_zero, Nat.zero_add, Nat.mul_zero, Nat.reduceAdd, Nat.reduceMul, Nat.reduceSub, ob1_e, ob2_e, ob3_e, ob4_e, ob6_e]
      · obtain ⟨r, e1, e2⟩ := ih (k + 1) n n' (v ||| ((1 : Int32) <<< (nI k &&& 31))) (by omega) (by omega) (by omega)
        refine ⟨r, ?_, ?_⟩
        · rw [← e1]
          simp (disch := omega) only [f_X9_signedBits_4, f_X9_signedBits, b_X9_signedBits_30, b_X9_signedBits_4, b_X9_signedBits_0, signers_c, hs, neg_nI, lit_nI, nI_add, pk_mul, pk_sub, nI_clamp, inB_nI, gd_true, bnd_def, nI_leI, nI_ltI, nI_eq, nI_mI, mI_nI, nle_T, nle_F, nlt_T, nlt_F, neq_T, neq_F, ↓reduceIte, Nat.add_zero, Nat.zero_add, Nat.mul_zero, Nat.reduceAdd, Nat.reduceMul, Nat.reduceSub, ob1_e, ob2_e, ob3_e, ob4_e, ob6_e]
        · rw [← e2]
          simp (disch := omega) only [f_X12_signedSet_4, f_X12_signedSet, b_X12_signedSet_33, b_X12_signedSet_4, b_X12_signedSet_0, f1, hs, neg_nI, lit_nI, nI_add, pk_mul, pk_sub, nI_clamp, inB_nI, gd_true, bnd_def, nI_leI, nI_ltI, nI_eq, nI_mI, mI_nI, nle_T, nle_F, nlt_T, nlt_F, neq_T, neq_F, ↓reduceIte, Nat.add_zero, Nat.zero_add, Nat.mul_zero, Nat.reduceAdd, Nat.reduceMul, Nat.reduceSub, ob1_e, ob2_e, ob3_e, ob4_e, ob6_e]
  obtain ⟨r, e1, e2⟩ := lk M 0 fu fu (nI 0) (by omega) (by have := fu_le; omega) (by have := fu_le; omega)
  exact ⟨r, e1, e2⟩
theorem bound_c (hM : M ≤ 5) (hw : ∀ k, k < M → mm (2 * k) = tw k) (hN : RN G M c m) : ∃ r, f_X9_bound (nI M) tw c = some r ∧ f_X12_bound (nI M) mm m = some r := by
  have lk : ∀ (j k n n' : Nat) (v : Int32), k + j = M → j < n → j < n' → ∃ r, f_X9_bound_4 (nI M) tw c n v (nI k) = some r ∧ f_X12_bound_4 (nI M) mm m n' v (nI k) = some r := by
    intro j
    induction j with
    | zero =>
      intro k n n' v hk h1 h2
      obtain ⟨n, rfl⟩ : ∃ q, n = q + 1 := ⟨n - 1, by omega⟩
      obtain ⟨n', rfl⟩ : ∃ q, n' = q + 1 := ⟨n' - 1, by omega⟩
      exact ⟨v, by simp (disch := omega) only [f_X9_bound_4, f_X9_bound, b_X9_bound_36, b_X9_bound_4, b_X9_bound_0, neg_nI, lit_nI, nI_add, pk_mul, pk_sub, nI_clamp, inB_nI, gd_true, bnd_def, nI_leI, nI_ltI, nI_eq, nI_mI, mI_nI, nle_T, nle_F, nlt_T, nlt_F, neq_T, neq_F, ↓reduceIte, Nat.add_zero, Nat.zero_add, Nat.mul_zero, Nat.reduceAdd, Nat.reduceMul, Nat.reduceSub, ob1_e, ob2_e, ob3_e, ob4_e, ob6_e], by simp (disch := omega) only [f_X12_bound_4, f_X12_bound, b_X12_bound_40, b_X12_bound_4, b_X12_bound_0, neg_nI, lit_nI, nI_add, pk_mul, pk_sub, nI_clamp, inB_nI, gd_true, bnd_def, nI_leI, nI_ltI, nI_eq, nI_mI, mI_nI, nle_T, nle_F, nlt_T, nlt_F, neq_T, neq_F, ↓reduceIte, Nat.add_zero, Nat.zero_add, Nat.mul_zero, Nat.reduceAdd, Nat.reduceMul, Nat.reduceSub, ob1_e, ob2_e, ob3_e, ob4_e, ob6_e]⟩
    | succ j ih =>
      intro k n n' v hk h1 h2
      obtain ⟨n, rfl⟩ : ∃ q, n = q + 1 := ⟨n - 1, by omega⟩
      obtain ⟨n', rfl⟩ : ∃ q, n' = q + 1 := ⟨n' - 1, by omega⟩
      have f1 : m (60 + k) = c (60 + k) := hN _ (by omega)
      have f2 := hw k (by omega)
      by_cases hs : c (60 + k) = mI 1
      · obtain ⟨r, e1, e2⟩ := ih (k + 1) n n' v (by omega) (by omega) (by omega)
        refine ⟨r, ?_, ?_⟩
        · rw [← e1]
          simp (disch := omega) only [f_X9_bound_4, f_X9_bound, b_X9_bound_36, b_X9_bound_4, b_X9_bound_0, signers_c, hs, neg_nI, lit_nI, nI_add, pk_mul, pk_sub, nI_clamp, inB_nI, gd_true, bnd_def, nI_leI, nI_ltI, nI_eq, nI_mI, mI_nI, nle_T, nle_F, nlt_T, nlt_F, neq_T, neq_F, ↓reduceIte, Nat.add_zero, Nat.zero_add, Nat.mul_zero, Nat.reduceAdd, Nat.reduceMul, Nat.reduceSub, ob1_e, ob2_e, ob3_e, ob4_e, ob6_e]
        · rw [← e2]
          simp (disch := omega) only [f_X12_bound_4, f_X12_bound, b_X12_bound_40, b_X12_bound_4, b_X12_bound_0, f1, hs, add0, neg_nI, lit_nI, nI_add, pk_mul, pk_sub, nI_clamp, inB_nI, gd_true, bnd_def, nI_leI, nI_ltI, nI_eq, nI_mI, mI_nI, nle_T, nle_F, nlt_T, nlt_F, neq_T, neq_F, ↓reduceIte, Nat.add_zero, Nat.zero_add, Nat.mul_zero, Nat.reduceAdd, Nat.reduceMul, Nat.reduceSub, ob1_e, ob2_e, ob3_e, ob4_e, ob6_e]
      · obtain ⟨r, e1, e2⟩ := ih (k + 1) n n' (v + tw k) (by omega) (by omega) (by omega)
        refine ⟨r, ?_, ?_⟩
        · rw [← e1]
          simp (disch := omega) only [f_X9_bound_4, f_X9_bound, b_X9_bound_36, b_X9_bound_4, b_X9_bound_0, signers_c, hs, neg_nI, lit_nI, nI_add, pk_mul, pk_sub, nI_clamp, inB_nI, gd_true, bnd_def, nI_leI, nI_ltI, nI_eq, nI_mI, mI_nI, nle_T, nle_F, nlt_T, nlt_F, neq_T, neq_F, ↓reduceIte, Nat.add_zero, Nat.zero_add, Nat.mul_zero, Nat.reduceAdd, Nat.reduceMul, Nat.reduceSub, ob1_e, ob2_e, ob3_e, ob4_e, ob6_e]
        · rw [← e2]
          simp (disch := omega) only [f_X12_bound_4, f_X12_bound, b_X12_bound_40, b_X12_bound_4, b_X12_bound_0, f1, f2, hs, neg_nI, lit_nI, nI_add, pk_mul, pk_sub, nI_clamp, inB_nI, gd_true, bnd_def, nI_leI, nI_ltI, nI_eq, nI_mI, mI_nI, nle_T, nle_F, nlt_T, nlt_F, neq_T, neq_F, ↓reduceIte, Nat.add_zero, Nat.zero_add, Nat.mul_zero, Nat.reduceAdd, Nat.reduceMul, Nat.reduceSub, ob1_e, ob2_e, ob3_e, ob4_e, ob6_e]
  obtain ⟨r, e1, e2⟩ := lk M 0 fu fu (nI 0) (by omega) (by have := fu_le; omega) (by have := fu_le; omega)
  exact ⟨r, e1, e2⟩
theorem gmost_c {row : Nat} (hG : G ≤ 6) (hG0 : 0 < G) (hr : row = 36 ∨ row = 42) (hN : RN G M c m) : ∃ r, f_X9_gloveMost (nI G) c (nI row) = some r ∧ f_X12_topGlove (nI G) m (nI row) = some r := by
  have lk : ∀ (j k n n' b : Nat), k + j = G → j < n → j < n' → b < G → ∃ r, f_X9_gloveMost_4 (nI G) c n (nI row) (nI b) (nI k) = some r ∧ f_X12_topGlove_4 (nI G) m n' (nI row) (nI b) (nI k) = some r := by
    intro j
    induction j with
    | zero =>
      intro k n n' b hk h1 h2 hb
      obtain ⟨n, rfl⟩ : ∃ q, n = q + 1 := ⟨n - 1, by omega⟩
      obtain ⟨n', rfl⟩ : ∃ q, n' = q + 1 := ⟨n' - 1, by omega⟩
      exact ⟨nI b, by simp (disch := omega) only [f_X9_gloveMost_4, f_X9_gloveMost, b_X9_gloveMost_36, b_X9_gloveMost_4, b_X9_gloveMost_0, neg_nI, lit_nI, nI_add, pk_mul, pk_sub, nI_clamp, inB_nI, gd_true, bnd_def, nI_leI, nI_ltI, nI_eq, nI_mI, mI_nI, nle_T, nle_F, nlt_T, nlt_F, neq_T, neq_F, ↓reduceIte, Nat.add_zero, Nat.zero_add, Nat.mul_zero, Nat.reduceAdd, Nat.reduceMul, Nat.reduceSub, ob1_e, ob2_e, ob3_e, ob4_e, ob6_e], by simp (disch := omega) only [f_X12_topGlove_4, f_X12_topGlove, b_X12_topGlove_36, b_X12_topGlove_4, b_X12_topGlove_0, neg_nI, lit_nI, nI_add, pk_mul, pk_sub, nI_clamp, inB_nI, gd_true, bnd_def, nI_leI, nI_ltI, nI_eq, nI_mI, mI_nI, nle_T, nle_F, nlt_T, nlt_F, neq_T, neq_F, ↓reduceIte, Nat.add_zero, Nat.zero_add, Nat.mul_zero, Nat.reduceAdd, Nat.reduceMul, Nat.reduceSub, ob1_e, ob2_e, ob3_e, ob4_e, ob6_e]⟩
    | succ j ih =>
      intro k n n' b hk h1 h2 hb
      obtain ⟨n, rfl⟩ : ∃ q, n = q + 1 := ⟨n - 1, by omega⟩
      obtain ⟨n', rfl⟩ : ∃ q, n' = q + 1 := ⟨n' - 1, by omega⟩
      have f1 : m (row + k) = c (row + k) := hN _ (by omega)
      have f2 : m (row + b) = c (row + b) := hN _ (by omega)
      by_cases hs : c (row + k) ≤ c (row + b)
      · obtain ⟨r, e1, e2⟩ := ih (k + 1) n n' b (by omega) (by omega) (by omega) hb
        refine ⟨r, ?_, ?_⟩
        · rw [← e1]
          simp (disch := omega) only [f_X9_gloveMost_4, f_X9_gloveMost, b_X9_gloveMost_36, b_X9_gloveMost_4, b_X9_gloveMost_0, hs, neg_nI, lit_nI, nI_add, pk_mul, pk_sub, nI_clamp, inB_nI, gd_true, bnd_def, nI_leI, nI_ltI, nI_eq, nI_mI, mI_nI, nle_T, nle_F, nlt_T, nlt_F, neq_T, neq_F, ↓reduceIte, Nat.add_zero, Nat.zero_add, Nat.mul_zero, Nat.reduceAdd, Nat.reduceMul, Nat.reduceSub, ob1_e, ob2_e, ob3_e, ob4_e, ob6_e]
        · rw [← e2]
          simp (disch := omega) only [f_X12_topGlove_4, f_X12_topGlove, b_X12_topGlove_36, b_X12_topGlove_4, b_X12_topGlove_0, f1, f2, hs, neg_nI, lit_nI, nI_add, pk_mul, pk_sub, nI_clamp, inB_nI, gd_true, bnd_def, nI_leI, nI_ltI, nI_eq, nI_mI, mI_nI, nle_T, nle_F, nlt_T, nlt_F, neq_T, neq_F, ↓reduceIte, Nat.add_zero, Nat.zero_add, Nat.mul_zero, Nat.reduceAdd, Nat.reduceMul, Nat.reduceSub, ob1_e, ob2_e, ob3_e, ob4_e, ob6_e]
      · obtain ⟨r, e1, e2⟩ := ih (k + 1) n n' k (by omega) (by omega) (by omega) (by omega)
        refine ⟨r, ?_, ?_⟩
        · rw [← e1]
          simp (disch := omega) only [f_X9_gloveMost_4, f_X9_gloveMost, b_X9_gloveMost_36, b_X9_gloveMost_4, b_X9_gloveMost_0, hs, neg_nI, lit_nI, nI_add, pk_mul, pk_sub, nI_clamp, inB_nI, gd_true, bnd_def, nI_leI, nI_ltI, nI_eq, nI_mI, mI_nI, nle_T, nle_F, nlt_T, nlt_F, neq_T, neq_F, ↓reduceIte, Nat.add_zero, Nat.zero_add, Nat.mul_zero, Nat.reduceAdd, Nat.reduceMul, Nat.reduceSub, ob1_e, ob2_e, ob3_e, ob4_e, ob6_e]
        · rw [← e2]
          simp (disch := omega) only [f_X12_topGlove_4, f_X12_topGlove, b_X12_topGlove_36, b_X12_topGlove_4, b_X12_topGlove_0, f1, f2, hs, neg_nI, lit_nI, nI_add, pk_mul, pk_sub, nI_clamp, inB_nI, gd_true, bnd_def, nI_leI, nI_ltI, nI_eq, nI_mI, mI_nI, nle_T, nle_F, nlt_T, nlt_F, neq_T, neq_F, ↓reduceIte, Nat.add_zero, Nat.zero_add, Nat.mul_zero, Nat.reduceAdd, Nat.reduceMul, Nat.reduceSub, ob1_e, ob2_e, ob3_e, ob4_e, ob6_e]
  obtain ⟨r, e1, e2⟩ := lk (G - 1) 1 fu fu 0 (by omega) (by have := fu_le; omega) (by have := fu_le; omega) hG0
  exact ⟨r, e1, e2⟩
theorem heaviest_c (hM : M ≤ 5) (hw : ∀ k, k < M → mm (2 * k) = tw k) (hwb : ∀ k, k < M → ∃ w, w ≤ 9 ∧ tw k = nI w) : ∃ r, f_X5_heaviest (nI M) tw = some r ∧ f_X12_heaviest (nI M) mm = some r := by
  have lk : ∀ (j k n n' b : Nat), k + j = M → j < n → j < n' → b < M → ∃ r, f_X5_heaviest_6 (nI M) tw n (nI b) (tw b) (nI k) = some r ∧ f_X12_heaviest_15 (nI M) mm n' (nI b) (nI k) = some r := by
    intro j
    induction j with
    | zero =>
      intro k n n' b hk h1 h2 hb
      obtain ⟨n, rfl⟩ : ∃ q, n = q + 1 := ⟨n - 1, by omega⟩
      obtain ⟨n', rfl⟩ : ∃ q, n' = q + 1 := ⟨n' - 1, by omega⟩
      exact ⟨nI b, by simp (disch := omega) only [f_X5_heaviest_6, f_X5_heaviest, b_X5_heaviest_33, b_X5_heaviest_6, b_X5_heaviest_0, neg_nI, lit_nI, nI_add, pk_mul, pk_sub, nI_clamp, inB_nI, gd_true, bnd_def, nI_leI, nI_ltI, nI_eq, nI_mI, mI_nI, nle_T, nle_F, nlt_T, nlt_F, neq_T, neq_F, ↓reduceIte, Nat.add_zero, Nat.zero_add, Nat.mul_zero, Nat.reduceAdd, Nat.reduceMul, Nat.reduceSub, ob1_e, ob2_e, ob3_e, ob4_e, ob6_e], by simp (disch := omega) only [f_X12_heaviest_15, f_X12_heaviest, b_X12_heaviest_51, b_X12_heaviest_15, b_X12_heaviest_12, b_X12_heaviest_0, neg_nI, lit_nI, nI_add, pk_mul, pk_sub, nI_clamp, inB_nI, gd_true, bnd_def, nI_leI, nI_ltI, nI_eq, nI_mI, mI_nI, nle_T, nle_F, nlt_T, nlt_F, neq_T, neq_F, ↓reduceIte, Nat.add_zero, Nat.zero_add, Nat.mul_zero, Nat.reduceAdd, Nat.reduceMul, Nat.reduceSub, ob1_e, ob2_e, ob3_e, ob4_e, ob6_e]⟩
    | succ j ih =>
      intro k n n' b hk h1 h2 hb
      obtain ⟨n, rfl⟩ : ∃ q, n = q + 1 := ⟨n - 1, by omega⟩
      obtain ⟨n', rfl⟩ : ∃ q, n' = q + 1 := ⟨n' - 1, by omega⟩
      have f1 := hw k (by omega)
      have f2 := hw b hb
      by_cases hs : tw k ≤ tw b
      · obtain ⟨r, e1, e2⟩ := ih (k + 1) n n' b (by omega) (by omega) (by omega) hb
        refine ⟨r, ?_, ?_⟩
        · rw [← e1]
          simp (disch := omega) only [f_X5_heaviest_6, f_X5_heaviest, b_X5_heaviest_33, b_X5_heaviest_6, b_X5_heaviest_0, hs, neg_nI, lit_nI, nI_add, pk_mul, pk_sub, nI_clamp, inB_nI, gd_true, bnd_def, nI_leI, nI_ltI, nI_eq, nI_mI, mI_nI, nle_T, nle_F, nlt_T, nlt_F, neq_T, neq_F, ↓reduceIte, Nat.add_zero, Nat.zero_add, Nat.mul_zero, Nat.reduceAdd, Nat.reduceMul, Nat.reduceSub, ob1_e, ob2_e, ob3_e, ob4_e, ob6_e]
        · rw [← e2]
          simp (disch := omega) only [f_X12_heaviest_15, f_X12_heaviest, b_X12_heaviest_51, b_X12_heaviest_15, b_X12_heaviest_12, b_X12_heaviest_0, f1, f2, hs, neg_nI, lit_nI, nI_add, pk_mul, pk_sub, nI_clamp, inB_nI, gd_true, bnd_def, nI_leI, nI_ltI, nI_eq, nI_mI, mI_nI, nle_T, nle_F, nlt_T, nlt_F, neq_T, neq_F, ↓reduceIte, Nat.add_zero, Nat.zero_add, Nat.mul_zero, Nat.reduceAdd, Nat.reduceMul, Nat.reduceSub, ob1_e, ob2_e, ob3_e, ob4_e, ob6_e]
      · obtain ⟨r, e1, e2⟩ := ih (k + 1) n n' k (by omega) (by omega) (by omega) (by omega)
        refine ⟨r, ?_, ?_⟩
        · rw [← e1]
          simp (disch := omega) only [f_X5_heaviest_6, f_X5_heaviest, b_X5_heaviest_33, b_X5_heaviest_6, b_X5_heaviest_0, hs, neg_nI, lit_nI, nI_add, pk_mul, pk_sub, nI_clamp, inB_nI, gd_true, bnd_def, nI_leI, nI_ltI, nI_eq, nI_mI, mI_nI, nle_T, nle_F, nlt_T, nlt_F, neq_T, neq_F, ↓reduceIte, Nat.add_zero, Nat.zero_add, Nat.mul_zero, Nat.reduceAdd, Nat.reduceMul, Nat.reduceSub, ob1_e, ob2_e, ob3_e, ob4_e, ob6_e]
        · rw [← e2]
          simp (disch := omega) only [f_X12_heaviest_15, f_X12_heaviest, b_X12_heaviest_51, b_X12_heaviest_15, b_X12_heaviest_12, b_X12_heaviest_0, f1, f2, hs, neg_nI, lit_nI, nI_add, pk_mul, pk_sub, nI_clamp, inB_nI, gd_true, bnd_def, nI_leI, nI_ltI, nI_eq, nI_mI, mI_nI, nle_T, nle_F, nlt_T, nlt_F, neq_T, neq_F, ↓reduceIte, Nat.add_zero, Nat.zero_add, Nat.mul_zero, Nat.reduceAdd, Nat.reduceMul, Nat.reduceSub, ob1_e, ob2_e, ob3_e, ob4_e, ob6_e]
  obtain ⟨fu2, hfu⟩ : ∃ q, fu = q + 1 := ⟨fu - 1, by have := fu_le; omega⟩
  have hf9 := fu_le
  by_cases m0 : M = 0
  · subst m0
    refine ⟨mI 1, ?_, ?_⟩
    · unfold f_X5_heaviest b_X5_heaviest_0
      rw [hfu]
      simp (disch := omega) only [f_X5_heaviest_6, b_X5_heaviest_6, neg_nI, lit_nI, nI_add, pk_mul, pk_sub, nI_clamp, inB_nI, gd_true, bnd_def, nI_leI, nI_ltI, nI_eq, nI_mI, mI_nI, nle_T, nle_F, nlt_T, nlt_F, neq_T, neq_F, ↓reduceIte, Nat.add_zero, Nat.zero_add, Nat.mul_zero, Nat.reduceAdd, Nat.reduceMul, Nat.reduceSub, ob1_e, ob2_e, ob3_e, ob4_e, ob6_e]
    · simp (disch := omega) only [f_X12_heaviest, b_X12_heaviest_0, b_X12_heaviest_12, neg_nI, lit_nI, nI_add, pk_mul, pk_sub, nI_clamp, inB_nI, gd_true, bnd_def, nI_leI, nI_ltI, nI_eq, nI_mI, mI_nI, nle_T, nle_F, nlt_T, nlt_F, neq_T, neq_F, ↓reduceIte, Nat.add_zero, Nat.zero_add, Nat.mul_zero, Nat.reduceAdd, Nat.reduceMul, Nat.reduceSub, ob1_e, ob2_e, ob3_e, ob4_e, ob6_e]
      rw [hfu]
      simp (disch := omega) only [f_X12_heaviest_15, b_X12_heaviest_15, neg_nI, lit_nI, nI_add, pk_mul, pk_sub, nI_clamp, inB_nI, gd_true, bnd_def, nI_leI, nI_ltI, nI_eq, nI_mI, mI_nI, nle_T, nle_F, nlt_T, nlt_F, neq_T, neq_F, ↓reduceIte, Nat.add_zero, Nat.zero_add, Nat.mul_zero, Nat.reduceAdd, Nat.reduceMul, Nat.reduceSub, ob1_e, ob2_e, ob3_e, ob4_e, ob6_e]
  · obtain ⟨r, e1, e2⟩ := lk (M - 1) 1 fu2 fu 0 (by omega) (by omega) (by omega) (by omega)
    refine ⟨r, ?_, ?_⟩
    · obtain ⟨w, hw9, ew⟩ := hwb 0 (by omega)
      have hneg : ¬ tw 0 ≤ mI 1 := by
        rw [ew, le32, nI_toInt (by omega), mI_toInt (by omega)]
        omega
      rw [← e1]
      unfold f_X5_heaviest b_X5_heaviest_0
      rw [hfu]
      simp (disch := omega) only [f_X5_heaviest_6, b_X5_heaviest_6, b_X5_heaviest_33, hneg, neg_nI, lit_nI, nI_add, pk_mul, pk_sub, nI_clamp, inB_nI, gd_true, bnd_def, nI_leI, nI_ltI, nI_eq, nI_mI, mI_nI, nle_T, nle_F, nlt_T, nlt_F, neq_T, neq_F, ↓reduceIte, Nat.add_zero, Nat.zero_add, Nat.mul_zero, Nat.reduceAdd, Nat.reduceMul, Nat.reduceSub, ob1_e, ob2_e, ob3_e, ob4_e, ob6_e]
    · rw [← e2]
      simp (disch := omega) only [f_X12_heaviest, b_X12_heaviest_0, b_X12_heaviest_12, neg_nI, lit_nI, nI_add, pk_mul, pk_sub, nI_clamp, inB_nI, gd_true, bnd_def, nI_leI, nI_ltI, nI_eq, nI_mI, mI_nI, nle_T, nle_F, nlt_T, nlt_F, neq_T, neq_F, ↓reduceIte, Nat.add_zero, Nat.zero_add, Nat.mul_zero, Nat.reduceAdd, Nat.reduceMul, Nat.reduceSub, ob1_e, ob2_e, ob3_e, ob4_e, ob6_e]
end MO
end
section
/-! the warmest and the coldest pair; what is due; the most -/
section PM
variable {G M : Nat} {th ta tw tn mg mm c m : Nat → Int32}
/-- the best pair so far, by both -/
def BP (G : Nat) (th c : Nat → Int32) (f best most : Int32) (done : Nat → Nat → Prop) : Prop := (best = mI 1 ∧ ∀ x y, done x y → x < y → y < G → th x = th y) ∨ (∃ a b, a < b ∧ b < G ∧ ¬ th a = th b ∧ best = nI (10 * a + b) ∧ most = f * c (pl a b) ∧ ∀ x y, done x y → x < y → y < G → ¬ th x = th y → f * c (pl x y) ≤ f * c (pl a b))
theorem mulf {f : Int32} (hf : f = nI 1 ∨ f = mI 1) {x y : Nat} (hx : x ≤ 99) (hy : y ≤ 99) : (f * (nI x - nI y) ≤ nI 0) ↔ (f * nI x ≤ f * nI y) := by
  have a0 : (nI 0).toInt = 0 := by decide
  have ax : (nI x).toInt = (x : Int) := nI_toInt (by omega)
  have ay : (nI y).toInt = (y : Int) := nI_toInt (by omega)
  have as : (nI x - nI y).toInt = (x : Int) - y := pk_sub_toInt (by omega) (by omega)
  rcases hf with rfl | rfl
  · have a1 : (nI 1).toInt = 1 := by decide
    rw [le32, le32, Int32.toInt_mul, Int32.toInt_mul, Int32.toInt_mul, a0, a1, ax, ay, as, Int.one_mul, Int.one_mul, Int.one_mul, Int.bmod_eq_of_le (by omega) (by omega), Int.bmod_eq_of_le (by omega) (by omega), Int.bmod_eq_of_le (by omega) (by omega)]
    omega
  · have a1 : (mI 1).toInt = -1 := by decide
    rw [le32, le32, Int32.toInt_mul, Int32.toInt_mul, Int32.toInt_mul, a0, a1, ax, ay, as, Int.bmod_eq_of_le (by omega) (by omega), Int.bmod_eq_of_le (by omega) (by omega), Int.bmod_eq_of_le (by omega) (by omega)]
    omega
theorem pm_in {f : Int32} (hf : f = nI 1 ∨ f = mI 1) (hG : G ≤ 6) (hh : ∀ g, g < G → mg (4 * g) = th g) (hN : RN G M c m) (hI : IV G th c) {a : Nat} (ha : a < G) {kx : Int32 → Int32 → Int32 → Option Int32} {ky : Int32 → Int32 → Int32 → Int32 → Option Int32} : ∀ (j o n n' : Nat) (best most : Int32), o + j = G → a < o → j < n → j < n' → BP G th c f best most (fun x y => x < a ∨ (x = a ∧ y < o)) → ∃ best' most', f_X9_pairMost_20 (nI G) th c kx n f best (nI a) (nI o) = kx f best' (nI (a + 1)) ∧ f_X12_topPair_22 (nI G) mg m ky n' f best most (nI a) (nI o) = ky f best' most' (nI (a + 1)) ∧ BP G th c f best' most' (fun x y => x < a + 1) := by
  intro j
  induction j with
  | zero =>
    intro o n n' best most ho hao h1 h2 hB
    obtain ⟨n, rfl⟩ : ∃ q, n = q + 1 := ⟨n - 1, by omega⟩
    obtain ⟨n', rfl⟩ : ∃ q, n' = q + 1 := ⟨n' - 1, by omega⟩
    refine ⟨best, most, ?_, ?_, ?_⟩
    · simp (disch := omega) only [f_X9_pairMost_20, b_X9_pairMost_20, neg_nI, lit_nI, nI_add, pk_mul, pk_sub, nI_clamp, inB_nI, gd_true, bnd_def, nI_leI, nI_ltI, nI_eq, nI_mI, mI_nI, nle_T, nle_F, nlt_T, nlt_F, neq_T, neq_F, ↓reduceIte, Nat.add_zero, Nat.zero_add, Nat.mul_zero, Nat.reduceAdd, Nat.reduceMul, Nat.reduceSub, ob1_e, ob2_e, ob3_e, ob4_e, ob6_e]
    · simp (disch := omega) only [f_X12_topPair_22, b_X12_topPair_22, neg_nI, lit_nI, nI_add, pk_mul, pk_sub, nI_clamp, inB_nI, gd_true, bnd_def, nI_leI, nI_ltI, nI_eq, nI_mI, mI_nI, nle_T, nle_F, nlt_T, nlt_F, neq_T, neq_F, ↓reduceIte, Nat.add_zero, Nat.zero_add, Nat.mul_zero, Nat.reduceAdd, Nat.reduceMul, Nat.reduceSub, ob1_e, ob2_e, ob3_e, ob4_e, ob6_e]
    · rcases hB with ⟨e, q⟩ | ⟨x, y, q1, q2, q3, q4, q5, q6⟩
      · exact Or.inl ⟨e, fun x y z1 z2 z3 => q x y (by omega) z2 z3⟩
      · exact Or.inr ⟨x, y, q1, q2, q3, q4, q5, fun u v z1 z2 z3 => q6 u v (by omega) z2 z3⟩
  | succ j ih =>
    intro o n n' best most ho hao h1 h2 hB
    obtain ⟨n, rfl⟩ : ∃ q, n = q + 1 := ⟨n - 1, by omega⟩
    obtain ⟨n', rfl⟩ : ∃ q, n' = q + 1 := ⟨n' - 1, by omega⟩
    have g1 := hh a ha
    have g2 := hh o (by omega)
    have hp := pl_lt (a := a) (b := o) ⟨by omega, by omega⟩
    have em : m (pl a o) = c (pl a o) := hN _ (by omega)
    have ecd : cd a o = 10 * a + o := by unfold cd; rw [if_neg (by omega)]
    by_cases ht : th a = th o
    · have hB2 : BP G th c f best most (fun x y => x < a ∨ (x = a ∧ y < o + 1)) := by
        rcases hB with ⟨e, q⟩ | ⟨x, y, q1, q2, q3, q4, q5, q6⟩
        · refine Or.inl ⟨e, fun x y z1 z2 z3 => ?_⟩
          by_cases e2 : x = a ∧ y = o
          · rw [e2.1, e2.2]; exact ht
          · exact q x y (by omega) z2 z3
        · refine Or.inr ⟨x, y, q1, q2, q3, q4, q5, fun u v z1 z2 z3 z4 => ?_⟩
          by_cases e2 : u = a ∧ v = o
          · rw [e2.1, e2.2] at z4
            exact absurd ht z4
          · exact q6 u v (by omega) z2 z3 z4
      obtain ⟨b', m', e1, e2, e3⟩ := ih (o + 1) n n' best most (by omega) (by omega) (by omega) (by omega) hB2
      refine ⟨b', m', ?_, ?_, e3⟩
      · rw [← e1]
        simp (disch := omega) only [f_X9_pairMost_20, b_X9_pairMost_20, b_X9_pairMost_83, unlike_c, ht, neg_nI, lit_nI, nI_add, pk_mul, pk_sub, nI_clamp, inB_nI, gd_true, bnd_def, nI_leI, nI_ltI, nI_eq, nI_mI, mI_nI, nle_T, nle_F, nlt_T, nlt_F, neq_T, neq_F, ↓reduceIte, Nat.add_zero, Nat.zero_add, Nat.mul_zero, Nat.reduceAdd, Nat.reduceMul, Nat.reduceSub, ob1_e, ob2_e, ob3_e, ob4_e, ob6_e]
      · rw [← e2]
        simp (disch := omega) only [f_X12_topPair_22, b_X12_topPair_22, b_X12_topPair_88, areTwo_c, g1, g2, ht, neg_nI, lit_nI, nI_add, pk_mul, pk_sub, nI_clamp, inB_nI, gd_true, bnd_def, nI_leI, nI_ltI, nI_eq, nI_mI, mI_nI, nle_T, nle_F, nlt_T, nlt_F, neq_T, neq_F, ↓reduceIte, Nat.add_zero, Nat.zero_add, Nat.mul_zero, Nat.reduceAdd, Nat.reduceMul, Nat.reduceSub, ob1_e, ob2_e, ob3_e, ob4_e, ob6_e]
    · rcases hB with ⟨rfl, q⟩ | ⟨x, y, q1, q2, q3, rfl, rfl, q6⟩
      · have hB2 : BP G th c f (nI (10 * a + o)) (f * c (pl a o)) (fun x y => x < a ∨ (x = a ∧ y < o + 1)) := by
          refine Or.inr ⟨a, o, hao, by omega, ht, rfl, rfl, fun u v z1 z2 z3 z4 => ?_⟩
          by_cases e2 : u = a ∧ v = o
          · rw [e2.1, e2.2, le32]; omega
          · exact absurd (q u v (by omega) z2 z3) z4
        obtain ⟨b', m', e1, e2, e3⟩ := ih (o + 1) n n' _ _ (by omega) (by omega) (by omega) (by omega) hB2
        refine ⟨b', m', ?_, ?_, e3⟩
        · rw [← e1]
          simp (disch := omega) only [f_X9_pairMost_20, b_X9_pairMost_20, b_X9_pairMost_83, b_X9_pairMost_75, unlike_c, ht, neg_nI, lit_nI, nI_add, pk_mul, pk_sub, nI_clamp, inB_nI, gd_true, bnd_def, nI_leI, nI_ltI, nI_eq, nI_mI, mI_nI, nle_T, nle_F, nlt_T, nlt_F, neq_T, neq_F, ↓reduceIte, Nat.add_zero, Nat.zero_add, Nat.mul_zero, Nat.reduceAdd, Nat.reduceMul, Nat.reduceSub, ob1_e, ob2_e, ob3_e, ob4_e, ob6_e]
        · rw [← e2]
          simp (disch := omega) only [f_X12_topPair_22, b_X12_topPair_22, b_X12_topPair_88, b_X12_topPair_65, areTwo_c, g1, g2, ht, codeOf_c, ecd, pairAt_c, inB_pl, pl_clamp, em, neg_nI, lit_nI, nI_add, pk_mul, pk_sub, nI_clamp, inB_nI, gd_true, bnd_def, nI_leI, nI_ltI, nI_eq, nI_mI, mI_nI, nle_T, nle_F, nlt_T, nlt_F, neq_T, neq_F, ↓reduceIte, Nat.add_zero, Nat.zero_add, Nat.mul_zero, Nat.reduceAdd, Nat.reduceMul, Nat.reduceSub, ob1_e, ob2_e, ob3_e, ob4_e, ob6_e]
      · have hp2 := pl_lt (a := x) (b := y) ⟨by omega, by omega⟩
        obtain ⟨w1, hw1, ew1, -⟩ := hI.1 (pl a o) hp
        obtain ⟨w2, hw2, ew2, -⟩ := hI.1 (pl x y) hp2
        have ed : nI (10 * x + y) / nI 10 = nI x := by
          rw [pk_div (by omega) (by omega) (by omega), show (10 * x + y) / 10 = x by omega]
        have er : rem (nI (10 * x + y)) (nI 10) = nI y := by
          rw [show rem (nI (10 * x + y)) (nI 10) = nI ((10 * x + y) % 10) from pk_rem (by omega) (by omega) (by omega), show (10 * x + y) % 10 = y by omega]
        by_cases hv : f * c (pl a o) ≤ f * c (pl x y)
        · have hv2 : f * (c (pl a o) - c (pl x y)) ≤ nI 0 := by
            rw [ew1, ew2] at hv ⊢
            exact (mulf hf hw1 hw2).mpr hv
          have hB2 : BP G th c f (nI (10 * x + y)) (f * c (pl x y)) (fun x y => x < a ∨ (x = a ∧ y < o + 1)) := by
            refine Or.inr ⟨x, y, q1, q2, q3, rfl, rfl, fun u v z1 z2 z3 z4 => ?_⟩
            by_cases e2 : u = a ∧ v = o
            · rw [e2.1, e2.2]; exact hv
            · exact q6 u v (by omega) z2 z3 z4
          obtain ⟨b', m', e1, e2, e3⟩ := ih (o + 1) n n' _ _ (by omega) (by omega) (by omega) (by omega) hB2
          refine ⟨b', m', ?_, ?_, e3⟩
          · rw [← e1]
            simp (disch := omega) only [f_X9_pairMost_20, b_X9_pairMost_20, b_X9_pairMost_83, b_X9_pairMost_75, unlike_c, ht, warmthOf_c, ed, er, hv2, neg_nI, lit_nI, nI_add, pk_mul, pk_sub, nI_clamp, inB_nI, gd_true, bnd_def, nI_leI, nI_ltI, nI_eq, nI_mI, mI_nI, nle_T, nle_F, nlt_T, nlt_F, neq_T, neq_F, ↓reduceIte, Nat.add_zero, Nat.zero_add, Nat.mul_zero, Nat.reduceAdd, Nat.reduceMul, Nat.reduceSub, ob1_e, ob2_e, ob3_e, ob4_e, ob6_e]
          · rw [← e2]
            simp (disch := omega) only [f_X12_topPair_22, b_X12_topPair_22, b_X12_topPair_88, b_X12_topPair_65, areTwo_c, g1, g2, ht, pairAt_c, inB_pl, pl_clamp, em, hv, neg_nI, lit_nI, nI_add, pk_mul, pk_sub, nI_clamp, inB_nI, gd_true, bnd_def, nI_leI, nI_ltI, nI_eq, nI_mI, mI_nI, nle_T, nle_F, nlt_T, nlt_F, neq_T, neq_F, ↓reduceIte, Nat.add_zero, Nat.zero_add, Nat.mul_zero, Nat.reduceAdd, Nat.reduceMul, Nat.reduceSub, ob1_e, ob2_e, ob3_e, ob4_e, ob6_e]
        · have hv2 : ¬ f * (c (pl a o) - c (pl x y)) ≤ nI 0 := by
            rw [ew1, ew2] at hv ⊢
            exact fun z => hv ((mulf hf hw1 hw2).mp z)
          have hB2 : BP G th c f (nI (10 * a + o)) (f * c (pl a o)) (fun x y => x < a ∨ (x = a ∧ y < o + 1)) := by
            refine Or.inr ⟨a, o, hao, by omega, ht, rfl, rfl, fun u v z1 z2 z3 z4 => ?_⟩
            by_cases e2 : u = a ∧ v = o
            · rw [e2.1, e2.2, le32]; omega
            · have z5 := q6 u v (by omega) z2 z3 z4
              rw [le32] at hv z5 ⊢
              omega
          obtain ⟨b', m', e1, e2, e3⟩ := ih (o + 1) n n' _ _ (by omega) (by omega) (by omega) (by omega) hB2
          refine ⟨b', m', ?_, ?_, e3⟩
          · rw [← e1]
            simp (disch := omega) only [f_X9_pairMost_20, b_X9_pairMost_20, b_X9_pairMost_83, b_X9_pairMost_75, unlike_c, ht, warmthOf_c, ed, er, hv2, neg_nI, lit_nI, nI_add, pk_mul, pk_sub, nI_clamp, inB_nI, gd_true, bnd_def, nI_leI, nI_ltI, nI_eq, nI_mI, mI_nI, nle_T, nle_F, nlt_T, nlt_F, neq_T, neq_F, ↓reduceIte, Nat.add_zero, Nat.zero_add, Nat.mul_zero, Nat.reduceAdd, Nat.reduceMul, Nat.reduceSub, ob1_e, ob2_e, ob3_e, ob4_e, ob6_e]
          · rw [← e2]
            simp (disch := omega) only [f_X12_topPair_22, b_X12_topPair_22, b_X12_topPair_88, b_X12_topPair_65, areTwo_c, g1, g2, ht, codeOf_c, ecd, pairAt_c, inB_pl, pl_clamp, em, hv, neg_nI, lit_nI, nI_add, pk_mul, pk_sub, nI_clamp, inB_nI, gd_true, bnd_def, nI_leI, nI_ltI, nI_eq, nI_mI, mI_nI, nle_T, nle_F, nlt_T, nlt_F, neq_T, neq_F, ↓reduceIte, Nat.add_zero, Nat.zero_add, Nat.mul_zero, Nat.reduceAdd, Nat.reduceMul, Nat.reduceSub, ob1_e, ob2_e, ob3_e, ob4_e, ob6_e]
theorem pm_out {f : Int32} (hf : f = nI 1 ∨ f = mI 1) (hG : G ≤ 6) (hh : ∀ g, g < G → mg (4 * g) = th g) (hN : RN G M c m) (hI : IV G th c) : ∀ (j a n n' : Nat) (best most : Int32), a + j = G → j < n → j < n' → BP G th c f best most (fun x y => x < a) → ∃ r most', f_X9_pairMost_4 (nI G) th c n f best (nI a) = some r ∧ f_X12_topPair_7 (nI G) mg m n' f best most (nI a) = some r ∧ BP G th c f r most' (fun x y => x < G) := by
  intro j
  induction j with
  | zero =>
    intro a n n' best most ha h1 h2 hB
    obtain ⟨n, rfl⟩ : ∃ q, n = q + 1 := ⟨n - 1, by omega⟩
    obtain ⟨n', rfl⟩ : ∃ q, n' = q + 1 := ⟨n' - 1, by omega⟩
    have ea : a = G := by omega
    subst ea
    refine ⟨best, most, ?_, ?_, hB⟩
    · simp (disch := omega) only [f_X9_pairMost_4, b_X9_pairMost_4, neg_nI, lit_nI, nI_add, pk_mul, pk_sub, nI_clamp, inB_nI, gd_true, bnd_def, nI_leI, nI_ltI, nI_eq, nI_mI, mI_nI, nle_T, nle_F, nlt_T, nlt_F, neq_T, neq_F, ↓reduceIte, Nat.add_zero, Nat.zero_add, Nat.mul_zero, Nat.reduceAdd, Nat.reduceMul, Nat.reduceSub, ob1_e, ob2_e, ob3_e, ob4_e, ob6_e]
    · simp (disch := omega) only [f_X12_topPair_7, b_X12_topPair_7, neg_nI, lit_nI, nI_add, pk_mul, pk_sub, nI_clamp, inB_nI, gd_true, bnd_def, nI_leI, nI_ltI, nI_eq, nI_mI, mI_nI, nle_T, nle_F, nlt_T, nlt_F, neq_T, neq_F, ↓reduceIte, Nat.add_zero, Nat.zero_add, Nat.mul_zero, Nat.reduceAdd, Nat.reduceMul, Nat.reduceSub, ob1_e, ob2_e, ob3_e, ob4_e, ob6_e]
  | succ j ih =>
    intro a n n' best most ha h1 h2 hB
    obtain ⟨n, rfl⟩ : ∃ q, n = q + 1 := ⟨n - 1, by omega⟩
    obtain ⟨n', rfl⟩ : ∃ q, n' = q + 1 := ⟨n' - 1, by omega⟩
    have hB2 : BP G th c f best most (fun x y => x < a ∨ (x = a ∧ y < a + 1)) := by
      rcases hB with ⟨e, q⟩ | ⟨x, y, q1, q2, q3, q4, q5, q6⟩
      · exact Or.inl ⟨e, fun x y z1 z2 z3 => q x y (by omega) z2 z3⟩
      · exact Or.inr ⟨x, y, q1, q2, q3, q4, q5, fun u v z1 z2 z3 z4 => q6 u v (by omega) z2 z3 z4⟩
    obtain ⟨b1, m1, p1, p2, p3⟩ := pm_in hf hG hh hN hI (show a < G by omega) (kx := f_X9_pairMost_4 (nI G) th c n) (ky := f_X12_topPair_7 (nI G) mg m n') (G - (a + 1)) (a + 1) fu fu best most (by omega) (by omega) (by have := fu_le; omega) (by have := fu_le; omega) hB2
    obtain ⟨r, m', e1, e2, e3⟩ := ih (a + 1) n n' b1 m1 (by omega) (by omega) (by omega) p3
    refine ⟨r, m', ?_, ?_, e3⟩
    · rw [← e1, ← p1]
      simp (disch := omega) only [f_X9_pairMost_4, b_X9_pairMost_4, neg_nI, lit_nI, nI_add, pk_mul, pk_sub, nI_clamp, inB_nI, gd_true, bnd_def, nI_leI, nI_ltI, nI_eq, nI_mI, mI_nI, nle_T, nle_F, nlt_T, nlt_F, neq_T, neq_F, ↓reduceIte, Nat.add_zero, Nat.zero_add, Nat.mul_zero, Nat.reduceAdd, Nat.reduceMul, Nat.reduceSub, ob1_e, ob2_e, ob3_e, ob4_e, ob6_e]
    · rw [← e2, ← p2]
      simp (disch := omega) only [f_X12_topPair_7, b_X12_topPair_7, neg_nI, lit_nI, nI_add, pk_mul, pk_sub, nI_clamp, inB_nI, gd_true, bnd_def, nI_leI, nI_ltI, nI_eq, nI_mI, mI_nI, nle_T, nle_F, nlt_T, nlt_F, neq_T, neq_F, ↓reduceIte, Nat.add_zero, Nat.zero_add, Nat.mul_zero, Nat.reduceAdd, Nat.reduceMul, Nat.reduceSub, ob1_e, ob2_e, ob3_e, ob4_e, ob6_e]
theorem pm_c {f : Int32} (hf : f = nI 1 ∨ f = mI 1) (hG : G ≤ 6) (hh : ∀ g, g < G → mg (4 * g) = th g) (hN : RN G M c m) (hI : IV G th c) : ∃ r most', f_X9_pairMost (nI G) th c f = some r ∧ f_X12_topPair (nI G) mg m f = some r ∧ BP G th c f r most' (fun x y => x < G) := pm_out hf hG hh hN hI G 0 fu fu (mI 1) (nI 0) (by omega) (by have := fu_le; omega) (by have := fu_le; omega) (Or.inl ⟨rfl, fun x y z => by omega⟩)
/-! due -/
def dmF (c : Nat → Int32) : Nat → Nat → Int32 → Int32
  | 0, _, v => v
  | j + 1, k, v => dmF c j (k + 1) (mx v (c k))
theorem mx_nI {a b : Nat} (ha : a < 2 ^ 31) (hb : b < 2 ^ 31) : mx (nI a) (nI b) = nI (max a b) := by
  show (if nI a < nI b then nI b else nI a) = _
  by_cases e : a < b
  · rw [if_pos (nI_lt e hb), Nat.max_eq_right (by omega)]
  · rw [if_neg (nI_nlt (by omega) ha), Nat.max_eq_left (by omega)]
theorem dmF_p {c : Nat → Int32} : ∀ (j k v : Nat), v ≤ 99 → (∀ i, k ≤ i → i < k + j → ∃ w, w ≤ 99 ∧ c i = nI w) → ∃ r, r ≤ 99 ∧ dmF c j k (nI v) = nI r ∧ v ≤ r ∧ (∀ i w, k ≤ i → i < k + j → w ≤ 99 → c i = nI w → w ≤ r) ∧ (r = v ∨ ∃ i, k ≤ i ∧ i < k + j ∧ c i = nI r)
  | 0, k, v, hv, _ => ⟨v, hv, rfl, Nat.le_refl v, fun i w h1 h2 => by omega, Or.inl rfl⟩
  | j + 1, k, v, hv, h => by
    obtain ⟨w, hw, ew⟩ := h k (by omega) (by omega)
    obtain ⟨r, r1, r2, r3, r4, r5⟩ := dmF_p j (k + 1) (max v w) (by omega) (fun i h1 h2 => h i (by omega) (by omega))
    refine ⟨r, r1, ?_, by omega, fun i u h1 h2 h3 h4 => ?_, ?_⟩
    · unfold dmF
      rw [ew, mx_nI (by omega) (by omega)]
      exact r2
    · by_cases e : i = k
      · rw [e, ew] at h4
        have := nI_inj (by omega) (by omega) h4
        omega
      · exact r4 i u (by omega) (by omega) h3 h4
    · rcases r5 with q | ⟨i, q1, q2, q3⟩
      · by_cases e : v < w
        · exact Or.inr ⟨k, by omega, by omega, by rw [ew]; congr 1; omega⟩
        · exact Or.inl (by omega)
      · exact Or.inr ⟨i, by omega, by omega, q3⟩
theorem dueY_l : ∀ (j k n : Nat) (v : Int32), k + j = 36 → j < n → f_X12_due_4 (nI M) mm m n v (nI k) = f_X12_due_33 (nI M) mm m fu (dmF m j k v) (nI 0) (nI 0) := by
  intro j
  induction j with
  | zero =>
    intro k n v hk h1
    obtain ⟨n, rfl⟩ : ∃ q, n = q + 1 := ⟨n - 1, by omega⟩
    simp (disch := omega) only [f_X12_due_4, b_X12_due_4, dmF, neg_nI, lit_nI, nI_add, pk_mul, pk_sub, nI_clamp, inB_nI, gd_true, bnd_def, nI_leI, nI_ltI, nI_eq, nI_mI, mI_nI, nle_T, nle_F, nlt_T, nlt_F, neq_T, neq_F, ↓reduceIte, Nat.add_zero, Nat.zero_add, Nat.mul_zero, Nat.reduceAdd, Nat.reduceMul, Nat.reduceSub, ob1_e, ob2_e, ob3_e, ob4_e, ob6_e]
  | succ j ih =>
    intro k n v hk h1
    obtain ⟨n, rfl⟩ : ∃ q, n = q + 1 := ⟨n - 1, by omega⟩
    rw [dmF, ← ih (k + 1) n _ (by omega) (by omega)]
    simp (disch := omega) only [f_X12_due_4, b_X12_due_4, neg_nI, lit_nI, nI_add, pk_mul, pk_sub, nI_clamp, inB_nI, gd_true, bnd_def, nI_leI, nI_ltI, nI_eq, nI_mI, mI_nI, nle_T, nle_F, nlt_T, nlt_F, neq_T, neq_F, ↓reduceIte, Nat.add_zero, Nat.zero_add, Nat.mul_zero, Nat.reduceAdd, Nat.reduceMul, Nat.reduceSub, ob1_e, ob2_e, ob3_e, ob4_e, ob6_e]
theorem dmF_cong {c m : Nat → Int32} : ∀ (j k : Nat) (v : Int32), (∀ i, k ≤ i → i < k + j → m i = c i) → dmF m j k v = dmF c j k v
  | 0, _, _, _ => rfl
  | j + 1, k, v, h => by
    unfold dmF
    rw [h k (by omega) (by omega)]
    exact dmF_cong j (k + 1) _ (fun i h1 h2 => h i (by omega) (by omega))
theorem due_l {v : Int32} (hM : M ≤ 5) (hn : ∀ k, k < M → mm (2 * k + 1) = tn k) (hN : RN G M c m) : ∀ (j k n n' : Nat) (b : Int32), k + j = M → j < n → j < n' → ∃ r, f_X9_dueBits_32 (nI G) (nI M) th tn c n v b (nI k) = some r ∧ f_X12_due_33 (nI M) mm m n' v b (nI k) = some r := by
  intro j
  induction j with
  | zero =>
    intro k n n' b hk h1 h2
    obtain ⟨n, rfl⟩ : ∃ q, n = q + 1 := ⟨n - 1, by omega⟩
    obtain ⟨n', rfl⟩ : ∃ q, n' = q + 1 := ⟨n' - 1, by omega⟩
    exact ⟨b, by simp (disch := omega) only [f_X9_dueBits_32, b_X9_dueBits_32, neg_nI, lit_nI, nI_add, pk_mul, pk_sub, nI_clamp, inB_nI, gd_true, bnd_def, nI_leI, nI_ltI, nI_eq, nI_mI, mI_nI, nle_T, nle_F, nlt_T, nlt_F, neq_T, neq_F, ↓reduceIte, Nat.add_zero, Nat.zero_add, Nat.mul_zero, Nat.reduceAdd, Nat.reduceMul, Nat.reduceSub, ob1_e, ob2_e, ob3_e, ob4_e, ob6_e], by simp (disch := omega) only [f_X12_due_33, b_X12_due_33, neg_nI, lit_nI, nI_add, pk_mul, pk_sub, nI_clamp, inB_nI, gd_true, bnd_def, nI_leI, nI_ltI, nI_eq, nI_mI, mI_nI, nle_T, nle_F, nlt_T, nlt_F, neq_T, neq_F, ↓reduceIte, Nat.add_zero, Nat.zero_add, Nat.mul_zero, Nat.reduceAdd, Nat.reduceMul, Nat.reduceSub, ob1_e, ob2_e, ob3_e, ob4_e, ob6_e]⟩
  | succ j ih =>
    intro k n n' b hk h1 h2
    obtain ⟨n, rfl⟩ : ∃ q, n = q + 1 := ⟨n - 1, by omega⟩
    obtain ⟨n', rfl⟩ : ∃ q, n' = q + 1 := ⟨n' - 1, by omega⟩
    have f1 : m (60 + k) = c (60 + k) := hN _ (by omega)
    have f2 := hn k (by omega)
    by_cases hs : c (60 + k) = mI 1
    · by_cases hv : v < tn k
      · obtain ⟨r, e1, e2⟩ := ih (k + 1) n n' b (by omega) (by omega) (by omega)
        refine ⟨r, ?_, ?_⟩
        · rw [← e1]
          simp (disch := omega) only [f_X9_dueBits_32, b_X9_dueBits_32, b_X9_dueBits_75, signers_c, hs, hv, neg_nI, lit_nI, nI_add, pk_mul, pk_sub, nI_clamp, inB_nI, gd_true, bnd_def, nI_leI, nI_ltI, nI_eq, nI_mI, mI_nI, nle_T, nle_F, nlt_T, nlt_F, neq_T, neq_F, ↓reduceIte, Nat.add_zero, Nat.zero_add, Nat.mul_zero, Nat.reduceAdd, Nat.reduceMul, Nat.reduceSub, ob1_e, ob2_e, ob3_e, ob4_e, ob6_e]
        · rw [← e2]
          simp (disch := omega) only [f_X12_due_33, b_X12_due_33, b_X12_due_75, b_X12_due_76, f1, f2, hs, hv, or0, neg_nI, lit_nI, nI_add, pk_mul, pk_sub, nI_clamp, inB_nI, gd_true, bnd_def, nI_leI, nI_ltI, nI_eq, nI_mI, mI_nI, nle_T, nle_F, nlt_T, nlt_F, neq_T, neq_F, ↓reduceIte, Nat.add_zero, Nat.zero_add, Nat.mul_zero, Nat.reduceAdd, Nat.reduceMul, Nat.reduceSub, ob1_e, ob2_e, ob3_e, ob4_e, ob6_e]
      · obtain ⟨r, e1, e2⟩ := ih (k + 1) n n' (b ||| ((1 : Int32) <<< (nI k &&& 31))) (by omega) (by omega) (by omega)
        refine ⟨r, ?_, ?_⟩
        · rw [← e1]
          simp (disch := omega) only [f_X9_dueBits_32, b_X9_dueBits_32, b_X9_dueBits_75, signers_c, hs, hv, neg_nI, lit_nI, nI_add, pk_mul, pk_sub, nI_clamp, inB_nI, gd_true, bnd_def, nI_leI, nI_ltI, nI_eq, nI_mI, mI_nI, nle_T, nle_F, nlt_T, nlt_F, neq_T, neq_F, ↓reduceIte, Nat.add_zero, Nat.zero_add, Nat.mul_zero, Nat.reduceAdd, Nat.reduceMul, Nat.reduceSub, ob1_e, ob2_e, ob3_e, ob4_e, ob6_e]
        · rw [← e2]
          simp (disch := omega) only [f_X12_due_33, b_X12_due_33, b_X12_due_75, b_X12_due_76, f1, f2, hs, hv, neg_nI, lit_nI, nI_add, pk_mul, pk_sub, nI_clamp, inB_nI, gd_true, bnd_def, nI_leI, nI_ltI, nI_eq, nI_mI, mI_nI, nle_T, nle_F, nlt_T, nlt_F, neq_T, neq_F, ↓reduceIte, Nat.add_zero, Nat.zero_add, Nat.mul_zero, Nat.reduceAdd, Nat.reduceMul, Nat.reduceSub, ob1_e, ob2_e, ob3_e, ob4_e, ob6_e]
    · obtain ⟨r, e1, e2⟩ := ih (k + 1) n n' b (by omega) (by omega) (by omega)
      refine ⟨r, ?_, ?_⟩
      · rw [← e1]
        simp (disch := omega) only [f_X9_dueBits_32, b_X9_dueBits_32, b_X9_dueBits_75, signers_c, hs, neg_nI, lit_nI, nI_add, pk_mul, pk_sub, nI_clamp, inB_nI, gd_true, bnd_def, nI_leI, nI_ltI, nI_eq, nI_mI, mI_nI, nle_T, nle_F, nlt_T, nlt_F, neq_T, neq_F, ↓reduceIte, Nat.add_zero, Nat.zero_add, Nat.mul_zero, Nat.reduceAdd, Nat.reduceMul, Nat.reduceSub, ob1_e, ob2_e, ob3_e, ob4_e, ob6_e]
      · rw [← e2]
        simp (disch := omega) only [f_X12_due_33, b_X12_due_33, b_X12_due_75, b_X12_due_76, f1, hs, or0, neg_nI, lit_nI, nI_add, pk_mul, pk_sub, nI_clamp, inB_nI, gd_true, bnd_def, nI_leI, nI_ltI, nI_eq, nI_mI, mI_nI, nle_T, nle_F, nlt_T, nlt_F, neq_T, neq_F, ↓reduceIte, Nat.add_zero, Nat.zero_add, Nat.mul_zero, Nat.reduceAdd, Nat.reduceMul, Nat.reduceSub, ob1_e, ob2_e, ob3_e, ob4_e, ob6_e]
theorem due_c (hG : G ≤ 6) (hM : M ≤ 5) (hh : ∀ g, g < G → mg (4 * g) = th g) (hn : ∀ k, k < M → mm (2 * k + 1) = tn k) (hex : ∃ a b, a < b ∧ b < G ∧ ¬ th a = th b) (hN : RN G M c m) (hI : IV G th c) : ∃ r, f_X9_dueBits (nI G) (nI M) th tn c = some r ∧ f_X12_due (nI M) mm m = some r := by
  obtain ⟨r, mo, e1, -, e3⟩ := pm_c (Or.inl rfl) hG hh hN hI
  rcases e3 with ⟨-, q⟩ | ⟨a, b, q1, q2, q3, q4, q5, q6⟩
  · obtain ⟨a, b, h1, h2, h3⟩ := hex
    exact absurd (q a b (by omega) h1 h2) h3
  · have hp := pl_lt (a := a) (b := b) ⟨by omega, by omega⟩
    obtain ⟨w, hw, ew, -⟩ := hI.1 (pl a b) hp
    obtain ⟨r2, d1, d2, d3, d4, d5⟩ := dmF_p (c := c) 36 0 0 (by omega) (fun i _ hi => by
      obtain ⟨u, hu, eu, -⟩ := hI.1 i (by omega)
      exact ⟨u, hu, eu⟩)
    have key : r2 = w := by
      have l1 := d4 (pl a b) w (by omega) (by omega) hw ew
      have l2 : r2 ≤ w := by
        rcases d5 with z | ⟨i, -, hi, ei⟩
        · omega
        · obtain ⟨u, hu, eu, hz⟩ := hI.1 i (by omega)
          rw [ei] at eu
          have e9 := nI_inj (by omega) (by omega) eu
          rcases hz with z | ⟨x, y, z1, z2, z3, z4⟩
          · omega
          · have z5 := q6 x y (by omega) z1 z2 z3
            rw [← z4, ei, ew, le32, Int32.toInt_mul, Int32.toInt_mul, nI_toInt (by omega), nI_toInt (by omega), nI_toInt (by omega), Int.bmod_eq_of_le (by omega) (by omega), Int.bmod_eq_of_le (by omega) (by omega)] at z5
            omega
      omega
    obtain ⟨r3, f1, f2⟩ := due_l (G := G) (th := th) (v := nI w) hM hn hN M 0 fu fu (nI 0) (by omega) (by have := fu_le; omega) (by have := fu_le; omega)
    have ed : nI (10 * a + b) / nI 10 = nI a := by
      rw [pk_div (by omega) (by omega) (by omega), show (10 * a + b) / 10 = a by omega]
    have er : rem (nI (10 * a + b)) (nI 10) = nI b := by
      rw [show rem (nI (10 * a + b)) (nI 10) = nI ((10 * a + b) % 10) from pk_rem (by omega) (by omega) (by omega), show (10 * a + b) % 10 = b by omega]
    refine ⟨r3, ?_, ?_⟩
    · rw [q4] at e1
      rw [← f1]
      simp (disch := omega) only [f_X9_dueBits, b_X9_dueBits_0, b_X9_dueBits_26, f_X9_warmestPair, b_X9_warmestPair_0, e1, ed, er, warmthOf_c, ew, neg_nI, lit_nI, nI_add, pk_mul, pk_sub, nI_clamp, inB_nI, gd_true, bnd_def, nI_leI, nI_ltI, nI_eq, nI_mI, mI_nI, nle_T, nle_F, nlt_T, nlt_F, neq_T, neq_F, ↓reduceIte, Nat.add_zero, Nat.zero_add, Nat.mul_zero, Nat.reduceAdd, Nat.reduceMul, Nat.reduceSub, ob1_e, ob2_e, ob3_e, ob4_e, ob6_e]
    · rw [← f2, ← key, ← d2, ← dmF_cong (m := m) 36 0 _ (fun i _ hi => hN i (by omega)), ← dueY_l (M := M) (mm := mm) (m := m) 36 0 fu (nI 0) (by omega) (by have := fu_le; omega)]
      simp (disch := omega) only [f_X12_due, b_X12_due_0, neg_nI, lit_nI, nI_add, pk_mul, pk_sub, nI_clamp, inB_nI, gd_true, bnd_def, nI_leI, nI_ltI, nI_eq, nI_mI, mI_nI, nle_T, nle_F, nlt_T, nlt_F, neq_T, neq_F, ↓reduceIte, Nat.add_zero, Nat.zero_add, Nat.mul_zero, Nat.reduceAdd, Nat.reduceMul, Nat.reduceSub, ob1_e, ob2_e, ob3_e, ob4_e, ob6_e]
theorem s_most (hG : G ≤ 6) (hM : M ≤ 5) (hh : ∀ g, g < G → mg (4 * g) = th g) (hw : ∀ k, k < M → mm (2 * k) = tw k) (hwb : ∀ k, k < M → ∃ w, w ≤ 9 ∧ tw k = nI w) (hn : ∀ k, k < M → mm (2 * k + 1) = tn k) (hex : 0 < G → ∃ a b, a < b ∧ b < G ∧ ¬ th a = th b) (hN : RN G M c m) (hI : IV G th c) (v : Int32) : ∃ r, f_X11_most (nI G) (nI M) th tw tn c v = some r ∧ f_X12_most (nI G) (nI M) mg mm m v = some r := by
  by_cases g0 : G = 0
  · refine ⟨mI 1, ?_, ?_⟩
    · unfold f_X11_most b_X11_most_0
      rw [noPeace_y g0, ob1_e, if_neg (by decide)]
      rfl
    · simp (disch := omega) only [f_X12_most, b_X12_most_0, neg_nI, lit_nI, nI_add, pk_mul, pk_sub, nI_clamp, inB_nI, gd_true, bnd_def, nI_leI, nI_ltI, nI_eq, nI_mI, mI_nI, nle_T, nle_F, nlt_T, nlt_F, neq_T, neq_F, ↓reduceIte, Nat.add_zero, Nat.zero_add, Nat.mul_zero, Nat.reduceAdd, Nat.reduceMul, Nat.reduceSub, ob1_e, ob2_e, ob3_e, ob4_e, ob6_e]
  · rcases rng v 8 (by omega) with ⟨k, hk, rfl⟩ | k0 | ⟨k0, k1, k2⟩
    · rcases (show k = 0 ∨ k = 1 ∨ k = 2 ∨ k = 3 ∨ k = 4 ∨ k = 5 ∨ k = 6 ∨ k = 7 ∨ k = 8 by omega) with rfl | rfl | rfl | rfl | rfl | rfl | rfl | rfl | rfl
      · exact ⟨bbF (pMet c) G 0 (nI 0), by simp (disch := omega) only [f_X11_most, b_X11_most_0, noPeace_n, metBits_c hG, neg_nI, lit_nI, nI_add, pk_mul, pk_sub, nI_clamp, inB_nI, gd_true, bnd_def, nI_leI, nI_ltI, nI_eq, nI_mI, mI_nI, nle_T, nle_F, nlt_T, nlt_F, neq_T, neq_F, ↓reduceIte, Nat.add_zero, Nat.zero_add, Nat.mul_zero, Nat.reduceAdd, Nat.reduceMul, Nat.reduceSub, ob1_e, ob2_e, ob3_e, ob4_e, ob6_e], by simp (disch := omega) only [f_X12_most, b_X12_most_0, metSet_c hG hN, neg_nI, lit_nI, nI_add, pk_mul, pk_sub, nI_clamp, inB_nI, gd_true, bnd_def, nI_leI, nI_ltI, nI_eq, nI_mI, mI_nI, nle_T, nle_F, nlt_T, nlt_F, neq_T, neq_F, ↓reduceIte, Nat.add_zero, Nat.zero_add, Nat.mul_zero, Nat.reduceAdd, Nat.reduceMul, Nat.reduceSub, ob1_e, ob2_e, ob3_e, ob4_e, ob6_e]⟩
      · obtain ⟨r, e1, e2⟩ := signed_c hM hN
        exact ⟨r, by simp (disch := omega) only [f_X11_most, b_X11_most_0, noPeace_n, e1, neg_nI, lit_nI, nI_add, pk_mul, pk_sub, nI_clamp, inB_nI, gd_true, bnd_def, nI_leI, nI_ltI, nI_eq, nI_mI, mI_nI, nle_T, nle_F, nlt_T, nlt_F, neq_T, neq_F, ↓reduceIte, Nat.add_zero, Nat.zero_add, Nat.mul_zero, Nat.reduceAdd, Nat.reduceMul, Nat.reduceSub, ob1_e, ob2_e, ob3_e, ob4_e, ob6_e], by simp (disch := omega) only [f_X12_most, b_X12_most_0, e2, neg_nI, lit_nI, nI_add, pk_mul, pk_sub, nI_clamp, inB_nI, gd_true, bnd_def, nI_leI, nI_ltI, nI_eq, nI_mI, mI_nI, nle_T, nle_F, nlt_T, nlt_F, neq_T, neq_F, ↓reduceIte, Nat.add_zero, Nat.zero_add, Nat.mul_zero, Nat.reduceAdd, Nat.reduceMul, Nat.reduceSub, ob1_e, ob2_e, ob3_e, ob4_e, ob6_e]⟩
      · obtain ⟨r, -, e1, e2, -⟩ := pm_c (Or.inl rfl) hG hh hN hI
        exact ⟨r, by simp (disch := omega) only [f_X11_most, b_X11_most_0, f_X9_warmestPair, b_X9_warmestPair_0, noPeace_n, e1, neg_nI, lit_nI, nI_add, pk_mul, pk_sub, nI_clamp, inB_nI, gd_true, bnd_def, nI_leI, nI_ltI, nI_eq, nI_mI, mI_nI, nle_T, nle_F, nlt_T, nlt_F, neq_T, neq_F, ↓reduceIte, Nat.add_zero, Nat.zero_add, Nat.mul_zero, Nat.reduceAdd, Nat.reduceMul, Nat.reduceSub, ob1_e, ob2_e, ob3_e, ob4_e, ob6_e], by simp (disch := omega) only [f_X12_most, b_X12_most_0, e2, neg_nI, lit_nI, nI_add, pk_mul, pk_sub, nI_clamp, inB_nI, gd_true, bnd_def, nI_leI, nI_ltI, nI_eq, nI_mI, mI_nI, nle_T, nle_F, nlt_T, nlt_F, neq_T, neq_F, ↓reduceIte, Nat.add_zero, Nat.zero_add, Nat.mul_zero, Nat.reduceAdd, Nat.reduceMul, Nat.reduceSub, ob1_e, ob2_e, ob3_e, ob4_e, ob6_e]⟩
      · obtain ⟨r, -, e1, e2, -⟩ := pm_c (Or.inr rfl) hG hh hN hI
        exact ⟨r, by simp (disch := omega) only [f_X11_most, b_X11_most_0, f_X9_coldestPair, b_X9_coldestPair_0, noPeace_n, e1, neg_nI, lit_nI, nI_add, pk_mul, pk_sub, nI_clamp, inB_nI, gd_true, bnd_def, nI_leI, nI_ltI, nI_eq, nI_mI, mI_nI, nle_T, nle_F, nlt_T, nlt_F, neq_T, neq_F, ↓reduceIte, Nat.add_zero, Nat.zero_add, Nat.mul_zero, Nat.reduceAdd, Nat.reduceMul, Nat.reduceSub, ob1_e, ob2_e, ob3_e, ob4_e, ob6_e], by simp (disch := omega) only [f_X12_most, b_X12_most_0, e2, neg_nI, lit_nI, nI_add, pk_mul, pk_sub, nI_clamp, inB_nI, gd_true, bnd_def, nI_leI, nI_ltI, nI_eq, nI_mI, mI_nI, nle_T, nle_F, nlt_T, nlt_F, neq_T, neq_F, ↓reduceIte, Nat.add_zero, Nat.zero_add, Nat.mul_zero, Nat.reduceAdd, Nat.reduceMul, Nat.reduceSub, ob1_e, ob2_e, ob3_e, ob4_e, ob6_e]⟩
      · obtain ⟨r, e1, e2⟩ := gmost_c (row := 36) hG (by omega) (Or.inl rfl) hN
        exact ⟨r, by simp (disch := omega) only [f_X11_most, b_X11_most_0, f_X9_freest, b_X9_freest_0, noPeace_n, e1, neg_nI, lit_nI, nI_add, pk_mul, pk_sub, nI_clamp, inB_nI, gd_true, bnd_def, nI_leI, nI_ltI, nI_eq, nI_mI, mI_nI, nle_T, nle_F, nlt_T, nlt_F, neq_T, neq_F, ↓reduceIte, Nat.add_zero, Nat.zero_add, Nat.mul_zero, Nat.reduceAdd, Nat.reduceMul, Nat.reduceSub, ob1_e, ob2_e, ob3_e, ob4_e, ob6_e], by simp (disch := omega) only [f_X12_most, b_X12_most_0, e2, neg_nI, lit_nI, nI_add, pk_mul, pk_sub, nI_clamp, inB_nI, gd_true, bnd_def, nI_leI, nI_ltI, nI_eq, nI_mI, mI_nI, nle_T, nle_F, nlt_T, nlt_F, neq_T, neq_F, ↓reduceIte, Nat.add_zero, Nat.zero_add, Nat.mul_zero, Nat.reduceAdd, Nat.reduceMul, Nat.reduceSub, ob1_e, ob2_e, ob3_e, ob4_e, ob6_e]⟩
      · obtain ⟨r, e1, e2⟩ := gmost_c (row := 42) hG (by omega) (Or.inr rfl) hN
        exact ⟨r, by simp (disch := omega) only [f_X11_most, b_X11_most_0, f_X9_stiffest, b_X9_stiffest_0, noPeace_n, e1, neg_nI, lit_nI, nI_add, pk_mul, pk_sub, nI_clamp, inB_nI, gd_true, bnd_def, nI_leI, nI_ltI, nI_eq, nI_mI, mI_nI, nle_T, nle_F, nlt_T, nlt_F, neq_T, neq_F, ↓reduceIte, Nat.add_zero, Nat.zero_add, Nat.mul_zero, Nat.reduceAdd, Nat.reduceMul, Nat.reduceSub, ob1_e, ob2_e, ob3_e, ob4_e, ob6_e], by simp (disch := omega) only [f_X12_most, b_X12_most_0, e2, neg_nI, lit_nI, nI_add, pk_mul, pk_sub, nI_clamp, inB_nI, gd_true, bnd_def, nI_leI, nI_ltI, nI_eq, nI_mI, mI_nI, nle_T, nle_F, nlt_T, nlt_F, neq_T, neq_F, ↓reduceIte, Nat.add_zero, Nat.zero_add, Nat.mul_zero, Nat.reduceAdd, Nat.reduceMul, Nat.reduceSub, ob1_e, ob2_e, ob3_e, ob4_e, ob6_e]⟩
      · obtain ⟨r, e1, e2⟩ := heaviest_c hM hw hwb
        exact ⟨r, by simp (disch := omega) only [f_X11_most, b_X11_most_0, noPeace_n, e1, neg_nI, lit_nI, nI_add, pk_mul, pk_sub, nI_clamp, inB_nI, gd_true, bnd_def, nI_leI, nI_ltI, nI_eq, nI_mI, mI_nI, nle_T, nle_F, nlt_T, nlt_F, neq_T, neq_F, ↓reduceIte, Nat.add_zero, Nat.zero_add, Nat.mul_zero, Nat.reduceAdd, Nat.reduceMul, Nat.reduceSub, ob1_e, ob2_e, ob3_e, ob4_e, ob6_e], by simp (disch := omega) only [f_X12_most, b_X12_most_0, e2, neg_nI, lit_nI, nI_add, pk_mul, pk_sub, nI_clamp, inB_nI, gd_true, bnd_def, nI_leI, nI_ltI, nI_eq, nI_mI, mI_nI, nle_T, nle_F, nlt_T, nlt_F, neq_T, neq_F, ↓reduceIte, Nat.add_zero, Nat.zero_add, Nat.mul_zero, Nat.reduceAdd, Nat.reduceMul, Nat.reduceSub, ob1_e, ob2_e, ob3_e, ob4_e, ob6_e]⟩
      · obtain ⟨r, e1, e2⟩ := bound_c hM hw hN
        exact ⟨r, by simp (disch := omega) only [f_X11_most, b_X11_most_0, noPeace_n, e1, neg_nI, lit_nI, nI_add, pk_mul, pk_sub, nI_clamp, inB_nI, gd_true, bnd_def, nI_leI, nI_ltI, nI_eq, nI_mI, mI_nI, nle_T, nle_F, nlt_T, nlt_F, neq_T, neq_F, ↓reduceIte, Nat.add_zero, Nat.zero_add, Nat.mul_zero, Nat.reduceAdd, Nat.reduceMul, Nat.reduceSub, ob1_e, ob2_e, ob3_e, ob4_e, ob6_e], by simp (disch := omega) only [f_X12_most, b_X12_most_0, e2, neg_nI, lit_nI, nI_add, pk_mul, pk_sub, nI_clamp, inB_nI, gd_true, bnd_def, nI_leI, nI_ltI, nI_eq, nI_mI, mI_nI, nle_T, nle_F, nlt_T, nlt_F, neq_T, neq_F, ↓reduceIte, Nat.add_zero, Nat.zero_add, Nat.mul_zero, Nat.reduceAdd, Nat.reduceMul, Nat.reduceSub, ob1_e, ob2_e, ob3_e, ob4_e, ob6_e]⟩
      · obtain ⟨r, e1, e2⟩ := due_c hG hM hh hn (hex (by omega)) hN hI
        exact ⟨r, by simp (disch := omega) only [f_X11_most, b_X11_most_0, noPeace_n, e1, neg_nI, lit_nI, nI_add, pk_mul, pk_sub, nI_clamp, inB_nI, gd_true, bnd_def, nI_leI, nI_ltI, nI_eq, nI_mI, mI_nI, nle_T, nle_F, nlt_T, nlt_F, neq_T, neq_F, ↓reduceIte, Nat.add_zero, Nat.zero_add, Nat.mul_zero, Nat.reduceAdd, Nat.reduceMul, Nat.reduceSub, ob1_e, ob2_e, ob3_e, ob4_e, ob6_e], by simp (disch := omega) only [f_X12_most, b_X12_most_0, e2, neg_nI, lit_nI, nI_add, pk_mul, pk_sub, nI_clamp, inB_nI, gd_true, bnd_def, nI_leI, nI_ltI, nI_eq, nI_mI, mI_nI, nle_T, nle_F, nlt_T, nlt_F, neq_T, neq_F, ↓reduceIte, Nat.add_zero, Nat.zero_add, Nat.mul_zero, Nat.reduceAdd, Nat.reduceMul, Nat.reduceSub, ob1_e, ob2_e, ob3_e, ob4_e, ob6_e]⟩
    · have ne : ∀ i : Nat, i ≤ 8 → ¬ v = nI i := by
        intro i hi e
        rw [e, lt32, nI_toInt (by omega)] at k0
        have : (nI 0).toInt = 0 := by decide
        omega
      refine ⟨mI 1, ?_, ?_⟩
      · simp (disch := omega) only [f_X11_most, b_X11_most_0, noPeace_n, k0, neg_nI, lit_nI, nI_add, pk_mul, pk_sub, nI_clamp, inB_nI, gd_true, bnd_def, nI_leI, nI_ltI, nI_eq, nI_mI, mI_nI, nle_T, nle_F, nlt_T, nlt_F, neq_T, neq_F, ↓reduceIte, Nat.add_zero, Nat.zero_add, Nat.mul_zero, Nat.reduceAdd, Nat.reduceMul, Nat.reduceSub, ob1_e, ob2_e, ob3_e, ob4_e, ob6_e]
      · simp (disch := omega) only [f_X12_most, b_X12_most_0, ne, neg_nI, lit_nI, nI_add, pk_mul, pk_sub, nI_clamp, inB_nI, gd_true, bnd_def, nI_leI, nI_ltI, nI_eq, nI_mI, mI_nI, nle_T, nle_F, nlt_T, nlt_F, neq_T, neq_F, ↓reduceIte, Nat.add_zero, Nat.zero_add, Nat.mul_zero, Nat.reduceAdd, Nat.reduceMul, Nat.reduceSub, ob1_e, ob2_e, ob3_e, ob4_e, ob6_e]
    · have ne : ∀ i : Nat, i ≤ 8 → ¬ v = nI i := by
        intro i hi e
        rw [e, lt32, nI_toInt (by omega), nI_toInt (by omega)] at k1
        omega
      refine ⟨mI 1, ?_, ?_⟩
      · simp (disch := omega) only [f_X11_most, b_X11_most_0, noPeace_n, k0, k2, neg_nI, lit_nI, nI_add, pk_mul, pk_sub, nI_clamp, inB_nI, gd_true, bnd_def, nI_leI, nI_ltI, nI_eq, nI_mI, mI_nI, nle_T, nle_F, nlt_T, nlt_F, neq_T, neq_F, ↓reduceIte, Nat.add_zero, Nat.zero_add, Nat.mul_zero, Nat.reduceAdd, Nat.reduceMul, Nat.reduceSub, ob1_e, ob2_e, ob3_e, ob4_e, ob6_e]
      · simp (disch := omega) only [f_X12_most, b_X12_most_0, ne, neg_nI, lit_nI, nI_add, pk_mul, pk_sub, nI_clamp, inB_nI, gd_true, bnd_def, nI_leI, nI_ltI, nI_eq, nI_mI, mI_nI, nle_T, nle_F, nlt_T, nlt_F, neq_T, neq_F, ↓reduceIte, Nat.add_zero, Nat.zero_add, Nat.mul_zero, Nat.reduceAdd, Nat.reduceMul, Nat.reduceSub, ob1_e, ob2_e, ob3_e, ob4_e, ob6_e]
end PM
end
section
/-! rises; and: later, soonest, odds answer (the class's days stay at 999, the model's don't: no claim that they answer alike) -/
section TT
variable {R : R6} {lh : Int32} {ll l0 l1 l2 l3 : Nat → Int32} {mh : Int32} {mc mv mk mt ms mu : Nat → Int32}
variable {G M : Nat} {th ta tn mg mm c m : Nat → Int32}
theorem s_rises (hX : RiseX R lh ll l0 l1 l2 l3) (hY : RiseY R mh mc mv mk mt ms mu) (hG : G ≤ 6) (hh : ∀ g, g < G → mg (4 * g) = th g) (ha : ∀ g, g < G → mg (4 * g + 3) = ta g) (hN : RN G M c m) (lt st lt2 st2 : Nat → Int32) (x y : Int32) : ∃ r lt' st' lt2' st2', f_X11_rises (nI G) th ta lh ll l0 l1 l2 l3 c lt st x y = some (r, lt', st') ∧ f_X12_rises (nI G) mh mc mv mk mt ms mu mg m lt2 st2 x y = some (r, lt2', st2') := by
  rcases two_or x y (th := th) (mg := mg) hG hh with ⟨g, o, hg, ho, rfl, rfl, ht⟩ | ⟨q1, q2⟩
  · have g1 := hh g hg
    have g2 := hh o ho
    have hp := pl_lt (a := g) (b := o) ⟨by omega, by omega⟩
    obtain ⟨lt', st', e1⟩ := riseOf_c hX (ta := ta) (c := c) (lt := lt) (st := st) (g := g) (o := o) ⟨by omega, by omega⟩
    obtain ⟨lt2', st2', e2⟩ := riseOfY_c hY (mg := mg) (m := m) (lt := lt2) (st := st2) (g := g) (o := o) ⟨by omega, by omega⟩
    rw [rv_cong hN ha ⟨hg, ho, hG⟩, hN (pl g o) (by omega), hN 68 (by omega)] at e2
    refine ⟨rv R ta c g o (c (pl g o)) (c 68), lt', st', lt2', st2', ?_, ?_⟩
    · simp (disch := omega) only [f_X11_rises, b_X11_rises_0, unlike_c, ht, e1, neg_nI, lit_nI, nI_add, pk_mul, pk_sub, nI_clamp, inB_nI, gd_true, bnd_def, nI_leI, nI_ltI, nI_eq, nI_mI, mI_nI, nle_T, nle_F, nlt_T, nlt_F, neq_T, neq_F, ↓reduceIte, Nat.add_zero, Nat.zero_add, Nat.mul_zero, Nat.reduceAdd, Nat.reduceMul, Nat.reduceSub, ob1_e, ob2_e, ob3_e, ob4_e, ob6_e]
    · simp (disch := omega) only [f_X12_rises, b_X12_rises_0, areTwo_c, g1, g2, ht, e2, neg_nI, lit_nI, nI_add, pk_mul, pk_sub, nI_clamp, inB_nI, gd_true, bnd_def, nI_leI, nI_ltI, nI_eq, nI_mI, mI_nI, nle_T, nle_F, nlt_T, nlt_F, neq_T, neq_F, ↓reduceIte, Nat.add_zero, Nat.zero_add, Nat.mul_zero, Nat.reduceAdd, Nat.reduceMul, Nat.reduceSub, ob1_e, ob2_e, ob3_e, ob4_e, ob6_e]
  · refine ⟨mI 1000000, lt, st, lt2, st2, ?_, ?_⟩
    · simp (disch := omega) only [f_X11_rises, b_X11_rises_0, q1, neg_nI, lit_nI, nI_add, pk_mul, pk_sub, nI_clamp, inB_nI, gd_true, bnd_def, nI_leI, nI_ltI, nI_eq, nI_mI, mI_nI, nle_T, nle_F, nlt_T, nlt_F, neq_T, neq_F, ↓reduceIte, Nat.add_zero, Nat.zero_add, Nat.mul_zero, Nat.reduceAdd, Nat.reduceMul, Nat.reduceSub, ob1_e, ob2_e, ob3_e, ob4_e, ob6_e]
    · simp (disch := omega) only [f_X12_rises, b_X12_rises_0, q2, neg_nI, lit_nI, nI_add, pk_mul, pk_sub, nI_clamp, inB_nI, gd_true, bnd_def, nI_leI, nI_ltI, nI_eq, nI_mI, mI_nI, nle_T, nle_F, nlt_T, nlt_F, neq_T, neq_F, ↓reduceIte, Nat.add_zero, Nat.zero_add, Nat.mul_zero, Nat.reduceAdd, Nat.reduceMul, Nat.reduceSub, ob1_e, ob2_e, ob3_e, ob4_e, ob6_e]
theorem warmX_e (hX : RiseX R lh ll l0 l1 l2 l3) {g o : Nat} {w k : Int32} (hg : g < 6) (ho : o < 6) (lt st : Nat → Int32) : ∃ z lt' st', f_X9_warmer ta lh ll l0 l1 l2 l3 c lt st (nI g) (nI o) w k = some (z, lt', st') := by
  obtain ⟨lt', st', e⟩ := warmer_c hX (ta := ta) (c := c) (lt := lt) (st := st) (g := g) (o := o) (w := w) (k := k) ⟨hg, ho⟩
  exact ⟨_, lt', st', e⟩
theorem laterX_l (hX : RiseX R lh ll l0 l1 l2 l3) {g o N : Nat} (hg : g < 6) (ho : o < 6) (hN6 : N ≤ 60) : ∀ (j k n : Nat) (lt st : Nat → Int32) (w : Int32), k + j = N → j < n → ∃ r lt' st', f_X11_later_38 (nI G) th ta lh ll l0 l1 l2 l3 c n lt st (nI g) (nI o) (nI N) w (nI k) = some (r, lt', st') := by
  intro j
  induction j with
  | zero =>
    intro k n lt st w hk h1
    obtain ⟨n, rfl⟩ : ∃ q, n = q + 1 := ⟨n - 1, by omega⟩
    exact ⟨w, lt, st, by simp (disch := omega) only [f_X11_later_38, b_X11_later_38, neg_nI, lit_nI, nI_add, pk_mul, pk_sub, nI_clamp, inB_nI, gd_true, bnd_def, nI_leI, nI_ltI, nI_eq, nI_mI, mI_nI, nle_T, nle_F, nlt_T, nlt_F, neq_T, neq_F, ↓reduceIte, Nat.add_zero, Nat.zero_add, Nat.mul_zero, Nat.reduceAdd, Nat.reduceMul, Nat.reduceSub, ob1_e, ob2_e, ob3_e, ob4_e, ob6_e]⟩
  | succ j ih =>
    intro k n lt st w hk h1
    obtain ⟨n, rfl⟩ : ∃ q, n = q + 1 := ⟨n - 1, by omega⟩
    obtain ⟨z, lt1, st1, e1⟩ := warmX_e hX (ta := ta) (c := c) (g := g) (o := o) (w := w) (k := nI k) hg ho lt st
    obtain ⟨r, lt', st', e2⟩ := ih (k + 1) n lt1 st1 z (by omega) (by omega)
    refine ⟨r, lt', st', ?_⟩
    rw [← e2]
    simp (disch := omega) only [f_X11_later_38, b_X11_later_38, e1, neg_nI, lit_nI, nI_add, pk_mul, pk_sub, nI_clamp, inB_nI, gd_true, bnd_def, nI_leI, nI_ltI, nI_eq, nI_mI, mI_nI, nle_T, nle_F, nlt_T, nlt_F, neq_T, neq_F, ↓reduceIte, Nat.add_zero, Nat.zero_add, Nat.mul_zero, Nat.reduceAdd, Nat.reduceMul, Nat.reduceSub, ob1_e, ob2_e, ob3_e, ob4_e, ob6_e]
theorem laterY_l (hY : RiseY R mh mc mv mk mt ms mu) {g o N : Nat} (hg : g < 6) (ho : o < 6) (hN6 : N ≤ 60) : ∀ (j k n : Nat) (lt st : Nat → Int32) (w : Int32), k + j = N → j < n → ∃ r lt' st', f_X12_later_36 (nI G) mh mc mv mk mt ms mu mg m n lt st (nI g) (nI o) (nI N) w (nI k) = some (r, lt', st') := by
  intro j
  induction j with
  | zero =>
    intro k n lt st w hk h1
    obtain ⟨n, rfl⟩ : ∃ q, n = q + 1 := ⟨n - 1, by omega⟩
    exact ⟨w, lt, st, by simp (disch := omega) only [f_X12_later_36, b_X12_later_36, neg_nI, lit_nI, nI_add, pk_mul, pk_sub, nI_clamp, inB_nI, gd_true, bnd_def, nI_leI, nI_ltI, nI_eq, nI_mI, mI_nI, nle_T, nle_F, nlt_T, nlt_F, neq_T, neq_F, ↓reduceIte, Nat.add_zero, Nat.zero_add, Nat.mul_zero, Nat.reduceAdd, Nat.reduceMul, Nat.reduceSub, ob1_e, ob2_e, ob3_e, ob4_e, ob6_e]⟩
  | succ j ih =>
    intro k n lt st w hk h1
    obtain ⟨n, rfl⟩ : ∃ q, n = q + 1 := ⟨n - 1, by omega⟩
    obtain ⟨lt1, st1, e1⟩ := riseFrom_c hY (mg := mg) (m := m) (lt := lt) (st := st) (g := g) (o := o) (w := w) (d := m 68 + nI k) ⟨hg, ho⟩
    generalize hz : hd (w + rv R (tA mg) m g o w (m 68 + nI k)) = z
    obtain ⟨r, lt', st', e2⟩ := ih (k + 1) n lt1 st1 z (by omega) (by omega)
    refine ⟨r, lt', st', ?_⟩
    rw [← e2]
    simp (disch := omega) only [f_X12_later_36, b_X12_later_36, e1, held_c, hz, neg_nI, lit_nI, nI_add, pk_mul, pk_sub, nI_clamp, inB_nI, gd_true, bnd_def, nI_leI, nI_ltI, nI_eq, nI_mI, mI_nI, nle_T, nle_F, nlt_T, nlt_F, neq_T, neq_F, ↓reduceIte, Nat.add_zero, Nat.zero_add, Nat.mul_zero, Nat.reduceAdd, Nat.reduceMul, Nat.reduceSub, ob1_e, ob2_e, ob3_e, ob4_e, ob6_e]
theorem s_later (hX : RiseX R lh ll l0 l1 l2 l3) (hY : RiseY R mh mc mv mk mt ms mu) (hG : G ≤ 6) (hh : ∀ g, g < G → mg (4 * g) = th g) (lt st lt2 st2 : Nat → Int32) (x y v : Int32) : ∃ r lt' st' r2 lt2' st2', f_X11_later (nI G) th ta lh ll l0 l1 l2 l3 c lt st x y v = some (r, lt', st') ∧ f_X12_later (nI G) mh mc mv mk mt ms mu mg m lt2 st2 x y v = some (r2, lt2', st2') := by
  rcases two_or x y (th := th) (mg := mg) hG hh with ⟨g, o, hg, ho, rfl, rfl, ht⟩ | ⟨q1, q2⟩
  · have g1 := hh g hg
    have g2 := hh o ho
    rcases rng v 60 (by omega) with ⟨k, hk, rfl⟩ | k0 | ⟨k0, k1, k2⟩
    · obtain ⟨r, lt', st', e1⟩ := laterX_l (G := G) (th := th) (ta := ta) (c := c) hX (g := g) (o := o) (N := k) (by omega) (by omega) hk k 0 fu lt st (c (pl g o)) (by omega) (by have := fu_le; omega)
      obtain ⟨r2, lt2', st2', e2⟩ := laterY_l (G := G) (mg := mg) (m := m) hY (g := g) (o := o) (N := k) (by omega) (by omega) hk k 0 fu lt2 st2 (m (pl g o)) (by omega) (by have := fu_le; omega)
      refine ⟨r, lt', st', r2, lt2', st2', ?_, ?_⟩
      · rw [← e1]
        simp (disch := omega) only [f_X11_later, b_X11_later_38, b_X11_later_0, unlike_c, ht, warmthOf_c, neg_nI, lit_nI, nI_add, pk_mul, pk_sub, nI_clamp, inB_nI, gd_true, bnd_def, nI_leI, nI_ltI, nI_eq, nI_mI, mI_nI, nle_T, nle_F, nlt_T, nlt_F, neq_T, neq_F, ↓reduceIte, Nat.add_zero, Nat.zero_add, Nat.mul_zero, Nat.reduceAdd, Nat.reduceMul, Nat.reduceSub, ob1_e, ob2_e, ob3_e, ob4_e, ob6_e]
      · rw [← e2]
        simp (disch := omega) only [f_X12_later, b_X12_later_36, b_X12_later_0, areTwo_c, g1, g2, ht, in_c, pairAt_c, inB_pl, pl_clamp, neg_nI, lit_nI, nI_add, pk_mul, pk_sub, nI_clamp, inB_nI, gd_true, bnd_def, nI_leI, nI_ltI, nI_eq, nI_mI, mI_nI, nle_T, nle_F, nlt_T, nlt_F, neq_T, neq_F, ↓reduceIte, Nat.add_zero, Nat.zero_add, Nat.mul_zero, Nat.reduceAdd, Nat.reduceMul, Nat.reduceSub, ob1_e, ob2_e, ob3_e, ob4_e, ob6_e]
    · refine ⟨mI 1, lt, st, mI 1, lt2, st2, ?_, ?_⟩
      · simp (disch := omega) only [f_X11_later, b_X11_later_38, b_X11_later_0, unlike_c, ht, k0, neg_nI, lit_nI, nI_add, pk_mul, pk_sub, nI_clamp, inB_nI, gd_true, bnd_def, nI_leI, nI_ltI, nI_eq, nI_mI, mI_nI, nle_T, nle_F, nlt_T, nlt_F, neq_T, neq_F, ↓reduceIte, Nat.add_zero, Nat.zero_add, Nat.mul_zero, Nat.reduceAdd, Nat.reduceMul, Nat.reduceSub, ob1_e, ob2_e, ob3_e, ob4_e, ob6_e]
      · simp (disch := omega) only [f_X12_later, b_X12_later_36, b_X12_later_0, areTwo_c, g1, g2, ht, in_lo (hi := nI 60) k0, neg_nI, lit_nI, nI_add, pk_mul, pk_sub, nI_clamp, inB_nI, gd_true, bnd_def, nI_leI, nI_ltI, nI_eq, nI_mI, mI_nI, nle_T, nle_F, nlt_T, nlt_F, neq_T, neq_F, ↓reduceIte, Nat.add_zero, Nat.zero_add, Nat.mul_zero, Nat.reduceAdd, Nat.reduceMul, Nat.reduceSub, ob1_e, ob2_e, ob3_e, ob4_e, ob6_e]
    · refine ⟨mI 1, lt, st, mI 1, lt2, st2, ?_, ?_⟩
      · simp (disch := omega) only [f_X11_later, b_X11_later_38, b_X11_later_0, unlike_c, ht, k0, k2, neg_nI, lit_nI, nI_add, pk_mul, pk_sub, nI_clamp, inB_nI, gd_true, bnd_def, nI_leI, nI_ltI, nI_eq, nI_mI, mI_nI, nle_T, nle_F, nlt_T, nlt_F, neq_T, neq_F, ↓reduceIte, Nat.add_zero, Nat.zero_add, Nat.mul_zero, Nat.reduceAdd, Nat.reduceMul, Nat.reduceSub, ob1_e, ob2_e, ob3_e, ob4_e, ob6_e]
      · simp (disch := omega) only [f_X12_later, b_X12_later_36, b_X12_later_0, areTwo_c, g1, g2, ht, in_hi (lo := nI 0) k1, neg_nI, lit_nI, nI_add, pk_mul, pk_sub, nI_clamp, inB_nI, gd_true, bnd_def, nI_leI, nI_ltI, nI_eq, nI_mI, mI_nI, nle_T, nle_F, nlt_T, nlt_F, neq_T, neq_F, ↓reduceIte, Nat.add_zero, Nat.zero_add, Nat.mul_zero, Nat.reduceAdd, Nat.reduceMul, Nat.reduceSub, ob1_e, ob2_e, ob3_e, ob4_e, ob6_e]
  · refine ⟨mI 1, lt, st, mI 1, lt2, st2, ?_, ?_⟩
    · simp (disch := omega) only [f_X11_later, b_X11_later_38, b_X11_later_0, q1, neg_nI, lit_nI, nI_add, pk_mul, pk_sub, nI_clamp, inB_nI, gd_true, bnd_def, nI_leI, nI_ltI, nI_eq, nI_mI, mI_nI, nle_T, nle_F, nlt_T, nlt_F, neq_T, neq_F, ↓reduceIte, Nat.add_zero, Nat.zero_add, Nat.mul_zero, Nat.reduceAdd, Nat.reduceMul, Nat.reduceSub, ob1_e, ob2_e, ob3_e, ob4_e, ob6_e]
    · simp (disch := omega) only [f_X12_later, b_X12_later_36, b_X12_later_0, q2, neg_nI, lit_nI, nI_add, pk_mul, pk_sub, nI_clamp, inB_nI, gd_true, bnd_def, nI_leI, nI_ltI, nI_eq, nI_mI, mI_nI, nle_T, nle_F, nlt_T, nlt_F, neq_T, neq_F, ↓reduceIte, Nat.add_zero, Nat.zero_add, Nat.mul_zero, Nat.reduceAdd, Nat.reduceMul, Nat.reduceSub, ob1_e, ob2_e, ob3_e, ob4_e, ob6_e]
theorem untilX_l (hX : RiseX R lh ll l0 l1 l2 l3) {g o : Nat} (hg : g < 6) (ho : o < 6) {need : Int32} : ∀ (j k n : Nat) (lt st : Nat → Int32) (w : Int32), k + j = 61 → j < n → ∃ r lt' st', f_X11_daysUntil_14 ta lh ll l0 l1 l2 l3 c n lt st (nI g) (nI o) need w (nI k) = some (r, lt', st') := by
  intro j
  induction j with
  | zero =>
    intro k n lt st w hk h1
    obtain ⟨n, rfl⟩ : ∃ q, n = q + 1 := ⟨n - 1, by omega⟩
    exact ⟨nI 61, lt, st, by simp (disch := omega) only [f_X11_daysUntil_14, b_X11_daysUntil_14, neg_nI, lit_nI, nI_add, pk_mul, pk_sub, nI_clamp, inB_nI, gd_true, bnd_def, nI_leI, nI_ltI, nI_eq, nI_mI, mI_nI, nle_T, nle_F, nlt_T, nlt_F, neq_T, neq_F, ↓reduceIte, Nat.add_zero, Nat.zero_add, Nat.mul_zero, Nat.reduceAdd, Nat.reduceMul, Nat.reduceSub, ob1_e, ob2_e, ob3_e, ob4_e, ob6_e]⟩
  | succ j ih =>
    intro k n lt st w hk h1
    obtain ⟨n, rfl⟩ : ∃ q, n = q + 1 := ⟨n - 1, by omega⟩
    by_cases hw : w < need
    · obtain ⟨z, lt1, st1, e1⟩ := warmX_e hX (ta := ta) (c := c) (g := g) (o := o) (w := w) (k := nI k) hg ho lt st
      obtain ⟨r, lt', st', e2⟩ := ih (k + 1) n lt1 st1 z (by omega) (by omega)
      refine ⟨r, lt', st', ?_⟩
      rw [← e2]
      simp (disch := omega) only [f_X11_daysUntil_14, b_X11_daysUntil_14, hw, e1, neg_nI, lit_nI, nI_add, pk_mul, pk_sub, nI_clamp, inB_nI, gd_true, bnd_def, nI_leI, nI_ltI, nI_eq, nI_mI, mI_nI, nle_T, nle_F, nlt_T, nlt_F, neq_T, neq_F, ↓reduceIte, Nat.add_zero, Nat.zero_add, Nat.mul_zero, Nat.reduceAdd, Nat.reduceMul, Nat.reduceSub, ob1_e, ob2_e, ob3_e, ob4_e, ob6_e]
    · exact ⟨nI k, lt, st, by simp (disch := omega) only [f_X11_daysUntil_14, b_X11_daysUntil_14, hw, neg_nI, lit_nI, nI_add, pk_mul, pk_sub, nI_clamp, inB_nI, gd_true, bnd_def, nI_leI, nI_ltI, nI_eq, nI_mI, mI_nI, nle_T, nle_F, nlt_T, nlt_F, neq_T, neq_F, ↓reduceIte, Nat.add_zero, Nat.zero_add, Nat.mul_zero, Nat.reduceAdd, Nat.reduceMul, Nat.reduceSub, ob1_e, ob2_e, ob3_e, ob4_e, ob6_e]⟩
theorem untilX_c (hX : RiseX R lh ll l0 l1 l2 l3) {g o : Nat} (hg : g < 6) (ho : o < 6) {need : Int32} (lt st : Nat → Int32) : ∃ r lt' st', f_X11_daysUntil ta lh ll l0 l1 l2 l3 c lt st (nI g) (nI o) need = some (r, lt', st') := by
  obtain ⟨r, lt', st', e⟩ := untilX_l (ta := ta) (c := c) hX hg ho (need := need) 61 0 fu lt st (c (pl g o)) (by omega) (by have := fu_le; omega)
  refine ⟨r, lt', st', ?_⟩
  rw [← e]
  simp (disch := omega) only [f_X11_daysUntil, b_X11_daysUntil_0, warmthOf_c, neg_nI, lit_nI, nI_add, pk_mul, pk_sub, nI_clamp, inB_nI, gd_true, bnd_def, nI_leI, nI_ltI, nI_eq, nI_mI, mI_nI, nle_T, nle_F, nlt_T, nlt_F, neq_T, neq_F, ↓reduceIte, Nat.add_zero, Nat.zero_add, Nat.mul_zero, Nat.reduceAdd, Nat.reduceMul, Nat.reduceSub, ob1_e, ob2_e, ob3_e, ob4_e, ob6_e]
theorem untilY_l (hY : RiseY R mh mc mv mk mt ms mu) {g o : Nat} (hg : g < 6) (ho : o < 6) {need : Int32} : ∀ (j k n : Nat) (lt st : Nat → Int32) (w : Int32), k + j = 60 → j < n → ∃ r lt' st', f_X12_daysTo_15 mh mc mv mk mt ms mu mg m n lt st (nI g) (nI o) need w (nI k) = some (r, lt', st') := by
  intro j
  induction j with
  | zero =>
    intro k n lt st w hk h1
    obtain ⟨n, rfl⟩ : ∃ q, n = q + 1 := ⟨n - 1, by omega⟩
    by_cases hw : w < need
    · have hw2 : ¬ need ≤ w := by rw [le32]; rw [lt32] at hw; omega
      exact ⟨mI 1, lt, st, by simp (disch := omega) only [f_X12_daysTo_15, f_X12_daysTo, b_X12_daysTo_60, b_X12_daysTo_15, b_X12_daysTo_0, hw, hw2, neg_nI, lit_nI, nI_add, pk_mul, pk_sub, nI_clamp, inB_nI, gd_true, bnd_def, nI_leI, nI_ltI, nI_eq, nI_mI, mI_nI, nle_T, nle_F, nlt_T, nlt_F, neq_T, neq_F, ↓reduceIte, Nat.add_zero, Nat.zero_add, Nat.mul_zero, Nat.reduceAdd, Nat.reduceMul, Nat.reduceSub, ob1_e, ob2_e, ob3_e, ob4_e, ob6_e]⟩
    · have hw2 : need ≤ w := by rw [le32]; rw [lt32] at hw; omega
      exact ⟨nI k, lt, st, by simp (disch := omega) only [f_X12_daysTo_15, f_X12_daysTo, b_X12_daysTo_60, b_X12_daysTo_15, b_X12_daysTo_0, hw, hw2, neg_nI, lit_nI, nI_add, pk_mul, pk_sub, nI_clamp, inB_nI, gd_true, bnd_def, nI_leI, nI_ltI, nI_eq, nI_mI, mI_nI, nle_T, nle_F, nlt_T, nlt_F, neq_T, neq_F, ↓reduceIte, Nat.add_zero, Nat.zero_add, Nat.mul_zero, Nat.reduceAdd, Nat.reduceMul, Nat.reduceSub, ob1_e, ob2_e, ob3_e, ob4_e, ob6_e]⟩
  | succ j ih =>
    intro k n lt st w hk h1
    obtain ⟨n, rfl⟩ : ∃ q, n = q + 1 := ⟨n - 1, by omega⟩
    by_cases hw : w < need
    · obtain ⟨lt1, st1, e1⟩ := riseFrom_c hY (mg := mg) (m := m) (lt := lt) (st := st) (g := g) (o := o) (w := w) (d := m 68 + nI k) ⟨hg, ho⟩
      generalize hz : hd (w + rv R (tA mg) m g o w (m 68 + nI k)) = z
      obtain ⟨r, lt', st', e2⟩ := ih (k + 1) n lt1 st1 z (by omega) (by omega)
      refine ⟨r, lt', st', ?_⟩
      have hw2 : ¬ need ≤ w := by rw [le32]; rw [lt32] at hw; omega
      rw [← e2]
      simp (disch := omega) only [f_X12_daysTo_15, f_X12_daysTo, b_X12_daysTo_60, b_X12_daysTo_15, b_X12_daysTo_0, hw, hw2, e1, held_c, hz, neg_nI, lit_nI, nI_add, pk_mul, pk_sub, nI_clamp, inB_nI, gd_true, bnd_def, nI_leI, nI_ltI, nI_eq, nI_mI, mI_nI, nle_T, nle_F, nlt_T, nlt_F, neq_T, neq_F, ↓reduceIte, Nat.add_zero, Nat.zero_add, Nat.mul_zero, Nat.reduceAdd, Nat.reduceMul, Nat.reduceSub, ob1_e, ob2_e, ob3_e, ob4_e, ob6_e]
    · have hw2 : need ≤ w := by rw [le32]; rw [lt32] at hw; omega
      exact ⟨nI k, lt, st, by simp (disch := omega) only [f_X12_daysTo_15, f_X12_daysTo, b_X12_daysTo_60, b_X12_daysTo_15, b_X12_daysTo_0, hw, hw2, neg_nI, lit_nI, nI_add, pk_mul, pk_sub, nI_clamp, inB_nI, gd_true, bnd_def, nI_leI, nI_ltI, nI_eq, nI_mI, mI_nI, nle_T, nle_F, nlt_T, nlt_F, neq_T, neq_F, ↓reduceIte, Nat.add_zero, Nat.zero_add, Nat.mul_zero, Nat.reduceAdd, Nat.reduceMul, Nat.reduceSub, ob1_e, ob2_e, ob3_e, ob4_e, ob6_e]⟩
theorem untilY_c (hY : RiseY R mh mc mv mk mt ms mu) {g o : Nat} (hg : g < 6) (ho : o < 6) {need : Int32} (lt st : Nat → Int32) : ∃ r lt' st', f_X12_daysTo mh mc mv mk mt ms mu mg m lt st (nI g) (nI o) need = some (r, lt', st') := by
  obtain ⟨r, lt', st', e⟩ := untilY_l (mg := mg) (m := m) hY hg ho (need := need) 60 0 fu lt st (m (pl g o)) (by omega) (by have := fu_le; omega)
  refine ⟨r, lt', st', ?_⟩
  rw [← e]
  simp (disch := omega) only [f_X12_daysTo, b_X12_daysTo_0, pairAt_c, inB_pl, pl_clamp, neg_nI, lit_nI, nI_add, pk_mul, pk_sub, nI_clamp, inB_nI, gd_true, bnd_def, nI_leI, nI_ltI, nI_eq, nI_mI, mI_nI, nle_T, nle_F, nlt_T, nlt_F, neq_T, neq_F, ↓reduceIte, Nat.add_zero, Nat.zero_add, Nat.mul_zero, Nat.reduceAdd, Nat.reduceMul, Nat.reduceSub, ob1_e, ob2_e, ob3_e, ob4_e, ob6_e]
theorem soonX_in (hX : RiseX R lh ll l0 l1 l2 l3) (hG : G ≤ 6) {q a : Nat} (hq : q < 5) (ha : a < G) {w : Int32} {k : (Nat → Int32) → (Nat → Int32) → Int32 → Int32 → Int32 → Int32 → Int32 → Option (Int32 × (Nat → Int32) × (Nat → Int32))} : ∀ (j o n : Nat) (lt st : Nat → Int32) (v3 v4 : Int32), o + j = G → j < n → ∃ lt' st' v3' v4', f_X11_soonest_49 (nI G) (nI M) th ta tn lh ll l0 l1 l2 l3 c k n lt st (nI q) w v3 v4 (nI a) (nI o) = k lt' st' (nI q) w v3' v4' (nI (a + 1)) := by
  intro j
  induction j with
  | zero =>
    intro o n lt st v3 v4 ho h1
    obtain ⟨n, rfl⟩ : ∃ q, n = q + 1 := ⟨n - 1, by omega⟩
    exact ⟨lt, st, v3, v4, by simp (disch := omega) only [f_X11_soonest_49, b_X11_soonest_49, neg_nI, lit_nI, nI_add, pk_mul, pk_sub, nI_clamp, inB_nI, gd_true, bnd_def, nI_leI, nI_ltI, nI_eq, nI_mI, mI_nI, nle_T, nle_F, nlt_T, nlt_F, neq_T, neq_F, ↓reduceIte, Nat.add_zero, Nat.zero_add, Nat.mul_zero, Nat.reduceAdd, Nat.reduceMul, Nat.reduceSub, ob1_e, ob2_e, ob3_e, ob4_e, ob6_e]⟩
  | succ j ih =>
    intro o n lt st v3 v4 ho h1
    obtain ⟨n, rfl⟩ : ∃ q, n = q + 1 := ⟨n - 1, by omega⟩
    by_cases ht : th a = th o
    · have l : v4 ≤ v4 := by rw [le32]; omega
      obtain ⟨lt', st', v3', v4', e⟩ := ih (o + 1) n lt st v3 v4 (by omega) (by omega)
      refine ⟨lt', st', v3', v4', ?_⟩
      rw [← e]
      simp (disch := omega) only [f_X11_soonest_49, b_X11_soonest_49, b_X11_soonest_97, b_X11_soonest_119, unlike_c, ht, l, neg_nI, lit_nI, nI_add, pk_mul, pk_sub, nI_clamp, inB_nI, gd_true, bnd_def, nI_leI, nI_ltI, nI_eq, nI_mI, mI_nI, nle_T, nle_F, nlt_T, nlt_F, neq_T, neq_F, ↓reduceIte, Nat.add_zero, Nat.zero_add, Nat.mul_zero, Nat.reduceAdd, Nat.reduceMul, Nat.reduceSub, ob1_e, ob2_e, ob3_e, ob4_e, ob6_e]
    · obtain ⟨r, lt1, st1, e1⟩ := untilX_c (ta := ta) (c := c) hX (g := a) (o := o) (by omega) (by omega) (need := tn q) lt st
      by_cases hr : v4 ≤ r
      · obtain ⟨lt', st', v3', v4', e⟩ := ih (o + 1) n lt1 st1 v3 v4 (by omega) (by omega)
        refine ⟨lt', st', v3', v4', ?_⟩
        rw [← e]
        simp (disch := omega) only [f_X11_soonest_49, b_X11_soonest_49, b_X11_soonest_97, b_X11_soonest_119, unlike_c, ht, e1, hr, neg_nI, lit_nI, nI_add, pk_mul, pk_sub, nI_clamp, inB_nI, gd_true, bnd_def, nI_leI, nI_ltI, nI_eq, nI_mI, mI_nI, nle_T, nle_F, nlt_T, nlt_F, neq_T, neq_F, ↓reduceIte, Nat.add_zero, Nat.zero_add, Nat.mul_zero, Nat.reduceAdd, Nat.reduceMul, Nat.reduceSub, ob1_e, ob2_e, ob3_e, ob4_e, ob6_e]
      · obtain ⟨lt', st', v3', v4', e⟩ := ih (o + 1) n lt1 st1 (nI (10 * a + o)) r (by omega) (by omega)
        refine ⟨lt', st', v3', v4', ?_⟩
        rw [← e]
        simp (disch := omega) only [f_X11_soonest_49, b_X11_soonest_49, b_X11_soonest_97, b_X11_soonest_119, unlike_c, ht, e1, hr, neg_nI, lit_nI, nI_add, pk_mul, pk_sub, nI_clamp, inB_nI, gd_true, bnd_def, nI_leI, nI_ltI, nI_eq, nI_mI, mI_nI, nle_T, nle_F, nlt_T, nlt_F, neq_T, neq_F, ↓reduceIte, Nat.add_zero, Nat.zero_add, Nat.mul_zero, Nat.reduceAdd, Nat.reduceMul, Nat.reduceSub, ob1_e, ob2_e, ob3_e, ob4_e, ob6_e]
theorem soonX_out (hX : RiseX R lh ll l0 l1 l2 l3) (hG : G ≤ 6) {q : Nat} (hq : q < 5) {w : Int32} : ∀ (j a n : Nat) (lt st : Nat → Int32) (v3 v4 : Int32), a + j = G → j < n → ∃ r lt' st', f_X11_soonest_31 (nI G) (nI M) th ta tn lh ll l0 l1 l2 l3 c n lt st (nI q) w v3 v4 (nI a) = some (r, lt', st') := by
  intro j
  induction j with
  | zero =>
    intro a n lt st v3 v4 ha h1
    obtain ⟨n, rfl⟩ : ∃ q, n = q + 1 := ⟨n - 1, by omega⟩
    by_cases hw : w = nI 0
    · exact ⟨v3, lt, st, by simp (disch := omega) only [f_X11_soonest_31, b_X11_soonest_31, b_X11_soonest_140, hw, neg_nI, lit_nI, nI_add, pk_mul, pk_sub, nI_clamp, inB_nI, gd_true, bnd_def, nI_leI, nI_ltI, nI_eq, nI_mI, mI_nI, nle_T, nle_F, nlt_T, nlt_F, neq_T, neq_F, ↓reduceIte, Nat.add_zero, Nat.zero_add, Nat.mul_zero, Nat.reduceAdd, Nat.reduceMul, Nat.reduceSub, ob1_e, ob2_e, ob3_e, ob4_e, ob6_e]⟩
    · by_cases h3 : v3 = mI 1
      · exact ⟨v3, lt, st, by simp (disch := omega) only [f_X11_soonest_31, b_X11_soonest_31, b_X11_soonest_140, hw, h3, neg_nI, lit_nI, nI_add, pk_mul, pk_sub, nI_clamp, inB_nI, gd_true, bnd_def, nI_leI, nI_ltI, nI_eq, nI_mI, mI_nI, nle_T, nle_F, nlt_T, nlt_F, neq_T, neq_F, ↓reduceIte, Nat.add_zero, Nat.zero_add, Nat.mul_zero, Nat.reduceAdd, Nat.reduceMul, Nat.reduceSub, ob1_e, ob2_e, ob3_e, ob4_e, ob6_e]⟩
      · exact ⟨v4, lt, st, by simp (disch := omega) only [f_X11_soonest_31, b_X11_soonest_31, b_X11_soonest_140, hw, h3, neg_nI, lit_nI, nI_add, pk_mul, pk_sub, nI_clamp, inB_nI, gd_true, bnd_def, nI_leI, nI_ltI, nI_eq, nI_mI, mI_nI, nle_T, nle_F, nlt_T, nlt_F, neq_T, neq_F, ↓reduceIte, Nat.add_zero, Nat.zero_add, Nat.mul_zero, Nat.reduceAdd, Nat.reduceMul, Nat.reduceSub, ob1_e, ob2_e, ob3_e, ob4_e, ob6_e]⟩
  | succ j ih =>
    intro a n lt st v3 v4 ha h1
    obtain ⟨n, rfl⟩ : ∃ q, n = q + 1 := ⟨n - 1, by omega⟩
    obtain ⟨lt1, st1, u3, u4, e1⟩ := soonX_in (M := M) (th := th) (ta := ta) (tn := tn) (c := c) hX hG hq (show a < G by omega) (w := w) (k := f_X11_soonest_31 (nI G) (nI M) th ta tn lh ll l0 l1 l2 l3 c n) (G - (a + 1)) (a + 1) fu lt st v3 v4 (by omega) (by have := fu_le; omega)
    obtain ⟨r, lt', st', e2⟩ := ih (a + 1) n lt1 st1 u3 u4 (by omega) (by omega)
    refine ⟨r, lt', st', ?_⟩
    rw [← e2, ← e1]
    simp (disch := omega) only [f_X11_soonest_31, b_X11_soonest_31, neg_nI, lit_nI, nI_add, pk_mul, pk_sub, nI_clamp, inB_nI, gd_true, bnd_def, nI_leI, nI_ltI, nI_eq, nI_mI, mI_nI, nle_T, nle_F, nlt_T, nlt_F, neq_T, neq_F, ↓reduceIte, Nat.add_zero, Nat.zero_add, Nat.mul_zero, Nat.reduceAdd, Nat.reduceMul, Nat.reduceSub, ob1_e, ob2_e, ob3_e, ob4_e, ob6_e]
theorem soonY_in (hY : RiseY R mh mc mv mk mt ms mu) (hG : G ≤ 6) (hh : ∀ g, g < G → mg (4 * g) = th g) {q a : Nat} (hq : q < 5) (ha : a < G) {w : Int32} {k : (Nat → Int32) → (Nat → Int32) → Int32 → Int32 → Int32 → Int32 → Int32 → Option (Int32 × (Nat → Int32) × (Nat → Int32))} : ∀ (j o n : Nat) (lt st : Nat → Int32) (v3 v4 : Int32), o + j = G → j < n → ∃ lt' st' v3' v4', f_X12_soonest_42 (nI G) (nI M) mh mc mv mk mt ms mu mg mm m k n lt st (nI q) w v3 v4 (nI a) (nI o) = k lt' st' (nI q) w v3' v4' (nI (a + 1)) := by
  intro j
  induction j with
  | zero =>
    intro o n lt st v3 v4 ho h1
    obtain ⟨n, rfl⟩ : ∃ q, n = q + 1 := ⟨n - 1, by omega⟩
    exact ⟨lt, st, v3, v4, by simp (disch := omega) only [f_X12_soonest_42, b_X12_soonest_42, neg_nI, lit_nI, nI_add, pk_mul, pk_sub, nI_clamp, inB_nI, gd_true, bnd_def, nI_leI, nI_ltI, nI_eq, nI_mI, mI_nI, nle_T, nle_F, nlt_T, nlt_F, neq_T, neq_F, ↓reduceIte, Nat.add_zero, Nat.zero_add, Nat.mul_zero, Nat.reduceAdd, Nat.reduceMul, Nat.reduceSub, ob1_e, ob2_e, ob3_e, ob4_e, ob6_e]⟩
  | succ j ih =>
    intro o n lt st v3 v4 ho h1
    obtain ⟨n, rfl⟩ : ∃ q, n = q + 1 := ⟨n - 1, by omega⟩
    have g1 := hh a ha
    have g2 := hh o (by omega)
    by_cases ht : th a = th o
    · obtain ⟨lt', st', v3', v4', e⟩ := ih (o + 1) n lt st v3 v4 (by omega) (by omega)
      refine ⟨lt', st', v3', v4', ?_⟩
      rw [← e]
      simp (disch := omega) only [f_X12_soonest_42, f_X12_soonest, b_X12_soonest_116, b_X12_soonest_104, b_X12_soonest_84, b_X12_soonest_42, b_X12_soonest_137, b_X12_soonest_27, b_X12_soonest_0, areTwo_c, g1, g2, ht, neg_nI, lit_nI, nI_add, pk_mul, pk_sub, nI_clamp, inB_nI, gd_true, bnd_def, nI_leI, nI_ltI, nI_eq, nI_mI, mI_nI, nle_T, nle_F, nlt_T, nlt_F, neq_T, neq_F, ↓reduceIte, Nat.add_zero, Nat.zero_add, Nat.mul_zero, Nat.reduceAdd, Nat.reduceMul, Nat.reduceSub, ob1_e, ob2_e, ob3_e, ob4_e, ob6_e]
    · obtain ⟨r, lt1, st1, e1⟩ := untilY_c (mg := mg) (m := m) hY (g := a) (o := o) (by omega) (by omega) (need := mm (2 * q + 1)) lt st
      by_cases hr : r = mI 1
      · obtain ⟨lt', st', v3', v4', e⟩ := ih (o + 1) n lt1 st1 v3 v4 (by omega) (by omega)
        refine ⟨lt', st', v3', v4', ?_⟩
        rw [← e]
        simp (disch := omega) only [f_X12_soonest_42, f_X12_soonest, b_X12_soonest_116, b_X12_soonest_104, b_X12_soonest_84, b_X12_soonest_42, b_X12_soonest_137, b_X12_soonest_27, b_X12_soonest_0, areTwo_c, g1, g2, ht, e1, hr, neg_nI, lit_nI, nI_add, pk_mul, pk_sub, nI_clamp, inB_nI, gd_true, bnd_def, nI_leI, nI_ltI, nI_eq, nI_mI, mI_nI, nle_T, nle_F, nlt_T, nlt_F, neq_T, neq_F, ↓reduceIte, Nat.add_zero, Nat.zero_add, Nat.mul_zero, Nat.reduceAdd, Nat.reduceMul, Nat.reduceSub, ob1_e, ob2_e, ob3_e, ob4_e, ob6_e]
      · by_cases h3 : v3 = mI 1
        · obtain ⟨lt', st', v3', v4', e⟩ := ih (o + 1) n lt1 st1 (nI (cd a o)) r (by omega) (by omega)
          refine ⟨lt', st', v3', v4', ?_⟩
          rw [← e]
          simp (disch := omega) only [f_X12_soonest_42, f_X12_soonest, b_X12_soonest_116, b_X12_soonest_104, b_X12_soonest_84, b_X12_soonest_42, b_X12_soonest_137, b_X12_soonest_27, b_X12_soonest_0, areTwo_c, g1, g2, ht, e1, hr, h3, codeOf_c, neg_nI, lit_nI, nI_add, pk_mul, pk_sub, nI_clamp, inB_nI, gd_true, bnd_def, nI_leI, nI_ltI, nI_eq, nI_mI, mI_nI, nle_T, nle_F, nlt_T, nlt_F, neq_T, neq_F, ↓reduceIte, Nat.add_zero, Nat.zero_add, Nat.mul_zero, Nat.reduceAdd, Nat.reduceMul, Nat.reduceSub, ob1_e, ob2_e, ob3_e, ob4_e, ob6_e]
        · by_cases h4 : v4 ≤ r
          · obtain ⟨lt', st', v3', v4', e⟩ := ih (o + 1) n lt1 st1 v3 v4 (by omega) (by omega)
            refine ⟨lt', st', v3', v4', ?_⟩
            rw [← e]
            simp (disch := omega) only [f_X12_soonest_42, f_X12_soonest, b_X12_soonest_116, b_X12_soonest_104, b_X12_soonest_84, b_X12_soonest_42, b_X12_soonest_137, b_X12_soonest_27, b_X12_soonest_0, areTwo_c, g1, g2, ht, e1, hr, h3, h4, neg_nI, lit_nI, nI_add, pk_mul, pk_sub, nI_clamp, inB_nI, gd_true, bnd_def, nI_leI, nI_ltI, nI_eq, nI_mI, mI_nI, nle_T, nle_F, nlt_T, nlt_F, neq_T, neq_F, ↓reduceIte, Nat.add_zero, Nat.zero_add, Nat.mul_zero, Nat.reduceAdd, Nat.reduceMul, Nat.reduceSub, ob1_e, ob2_e, ob3_e, ob4_e, ob6_e]
          · obtain ⟨lt', st', v3', v4', e⟩ := ih (o + 1) n lt1 st1 (nI (cd a o)) r (by omega) (by omega)
            refine ⟨lt', st', v3', v4', ?_⟩
            rw [← e]
            simp (disch := omega) only [f_X12_soonest_42, f_X12_soonest, b_X12_soonest_116, b_X12_soonest_104, b_X12_soonest_84, b_X12_soonest_42, b_X12_soonest_137, b_X12_soonest_27, b_X12_soonest_0, areTwo_c, g1, g2, ht, e1, hr, h3, h4, codeOf_c, neg_nI, lit_nI, nI_add, pk_mul, pk_sub, nI_clamp, inB_nI, gd_true, bnd_def, nI_leI, nI_ltI, nI_eq, nI_mI, mI_nI, nle_T, nle_F, nlt_T, nlt_F, neq_T, neq_F, ↓reduceIte, Nat.add_zero, Nat.zero_add, Nat.mul_zero, Nat.reduceAdd, Nat.reduceMul, Nat.reduceSub, ob1_e, ob2_e, ob3_e, ob4_e, ob6_e]
theorem soonY_out (hY : RiseY R mh mc mv mk mt ms mu) (hG : G ≤ 6) (hh : ∀ g, g < G → mg (4 * g) = th g) {q : Nat} (hq : q < 5) {w : Int32} : ∀ (j a n : Nat) (lt st : Nat → Int32) (v3 v4 : Int32), a + j = G → j < n → ∃ r lt' st', f_X12_soonest_27 (nI G) (nI M) mh mc mv mk mt ms mu mg mm m n lt st (nI q) w v3 v4 (nI a) = some (r, lt', st') := by
  intro j
  induction j with
  | zero =>
    intro a n lt st v3 v4 ha h1
    obtain ⟨n, rfl⟩ : ∃ q, n = q + 1 := ⟨n - 1, by omega⟩
    by_cases h3 : v3 = mI 1
    · exact ⟨v3, lt, st, by simp (disch := omega) only [f_X12_soonest_27, f_X12_soonest, b_X12_soonest_116, b_X12_soonest_104, b_X12_soonest_84, b_X12_soonest_42, b_X12_soonest_137, b_X12_soonest_27, b_X12_soonest_0, h3, neg_nI, lit_nI, nI_add, pk_mul, pk_sub, nI_clamp, inB_nI, gd_true, bnd_def, nI_leI, nI_ltI, nI_eq, nI_mI, mI_nI, nle_T, nle_F, nlt_T, nlt_F, neq_T, neq_F, ↓reduceIte, Nat.add_zero, Nat.zero_add, Nat.mul_zero, Nat.reduceAdd, Nat.reduceMul, Nat.reduceSub, ob1_e, ob2_e, ob3_e, ob4_e, ob6_e]⟩
    · by_cases hw : w = nI 0
      · exact ⟨v3, lt, st, by simp (disch := omega) only [f_X12_soonest_27, f_X12_soonest, b_X12_soonest_116, b_X12_soonest_104, b_X12_soonest_84, b_X12_soonest_42, b_X12_soonest_137, b_X12_soonest_27, b_X12_soonest_0, hw, h3, neg_nI, lit_nI, nI_add, pk_mul, pk_sub, nI_clamp, inB_nI, gd_true, bnd_def, nI_leI, nI_ltI, nI_eq, nI_mI, mI_nI, nle_T, nle_F, nlt_T, nlt_F, neq_T, neq_F, ↓reduceIte, Nat.add_zero, Nat.zero_add, Nat.mul_zero, Nat.reduceAdd, Nat.reduceMul, Nat.reduceSub, ob1_e, ob2_e, ob3_e, ob4_e, ob6_e]⟩
      · exact ⟨v4, lt, st, by simp (disch := omega) only [f_X12_soonest_27, f_X12_soonest, b_X12_soonest_116, b_X12_soonest_104, b_X12_soonest_84, b_X12_soonest_42, b_X12_soonest_137, b_X12_soonest_27, b_X12_soonest_0, hw, h3, neg_nI, lit_nI, nI_add, pk_mul, pk_sub, nI_clamp, inB_nI, gd_true, bnd_def, nI_leI, nI_ltI, nI_eq, nI_mI, mI_nI, nle_T, nle_F, nlt_T, nlt_F, neq_T, neq_F, ↓reduceIte, Nat.add_zero, Nat.zero_add, Nat.mul_zero, Nat.reduceAdd, Nat.reduceMul, Nat.reduceSub, ob1_e, ob2_e, ob3_e, ob4_e, ob6_e]⟩
  | succ j ih =>
    intro a n lt st v3 v4 ha h1
    obtain ⟨n, rfl⟩ : ∃ q, n = q + 1 := ⟨n - 1, by omega⟩
    obtain ⟨lt1, st1, u3, u4, e1⟩ := soonY_in (M := M) (mm := mm) (m := m) hY hG hh hq (show a < G by omega) (w := w) (k := f_X12_soonest_27 (nI G) (nI M) mh mc mv mk mt ms mu mg mm m n) (G - (a + 1)) (a + 1) fu lt st v3 v4 (by omega) (by have := fu_le; omega)
    obtain ⟨r, lt', st', e2⟩ := ih (a + 1) n lt1 st1 u3 u4 (by omega) (by omega)
    refine ⟨r, lt', st', ?_⟩
    rw [← e2, ← e1]
    simp (disch := omega) only [f_X12_soonest_27, b_X12_soonest_27, neg_nI, lit_nI, nI_add, pk_mul, pk_sub, nI_clamp, inB_nI, gd_true, bnd_def, nI_leI, nI_ltI, nI_eq, nI_mI, mI_nI, nle_T, nle_F, nlt_T, nlt_F, neq_T, neq_F, ↓reduceIte, Nat.add_zero, Nat.zero_add, Nat.mul_zero, Nat.reduceAdd, Nat.reduceMul, Nat.reduceSub, ob1_e, ob2_e, ob3_e, ob4_e, ob6_e]
theorem s_soonest (hX : RiseX R lh ll l0 l1 l2 l3) (hY : RiseY R mh mc mv mk mt ms mu) (hG : G ≤ 6) (hM : M ≤ 5) (hh : ∀ g, g < G → mg (4 * g) = th g) (lt st lt2 st2 : Nat → Int32) (x v : Int32) : ∃ r lt' st' r2 lt2' st2', f_X11_soonest (nI G) (nI M) th ta tn lh ll l0 l1 l2 l3 c lt st x v = some (r, lt', st') ∧ f_X12_soonest (nI G) (nI M) mh mc mv mk mt ms mu mg mm m lt2 st2 x v = some (r2, lt2', st2') := by
  rcases matter_or x (M := M) (by omega) with ⟨q, hq, rfl⟩ | ⟨q1, q2⟩
  · rcases rng v 1 (by omega) with ⟨k, hk, rfl⟩ | k0 | ⟨k0, k1, k2⟩
    · obtain ⟨r, lt', st', e1⟩ := soonX_out (M := M) (th := th) (ta := ta) (tn := tn) (c := c) hX hG (q := q) (by omega) (w := nI k) G 0 fu lt st (mI 1) (nI 61) (by omega) (by have := fu_le; omega)
      obtain ⟨r2, lt2', st2', e2⟩ := soonY_out (M := M) (mm := mm) (m := m) hY hG hh (q := q) (by omega) (w := nI k) G 0 fu lt2 st2 (mI 1) (nI 0) (by omega) (by have := fu_le; omega)
      refine ⟨r, lt', st', r2, lt2', st2', ?_, ?_⟩
      · rw [← e1]
        simp (disch := omega) only [f_X11_soonest, b_X11_soonest_0, hasMatter_y, neg_nI, lit_nI, nI_add, pk_mul, pk_sub, nI_clamp, inB_nI, gd_true, bnd_def, nI_leI, nI_ltI, nI_eq, nI_mI, mI_nI, nle_T, nle_F, nlt_T, nlt_F, neq_T, neq_F, ↓reduceIte, Nat.add_zero, Nat.zero_add, Nat.mul_zero, Nat.reduceAdd, Nat.reduceMul, Nat.reduceSub, ob1_e, ob2_e, ob3_e, ob4_e, ob6_e]
      · rw [← e2]
        simp (disch := omega) only [f_X12_soonest, b_X12_soonest_0, isMatter_y, in_c, neg_nI, lit_nI, nI_add, pk_mul, pk_sub, nI_clamp, inB_nI, gd_true, bnd_def, nI_leI, nI_ltI, nI_eq, nI_mI, mI_nI, nle_T, nle_F, nlt_T, nlt_F, neq_T, neq_F, ↓reduceIte, Nat.add_zero, Nat.zero_add, Nat.mul_zero, Nat.reduceAdd, Nat.reduceMul, Nat.reduceSub, ob1_e, ob2_e, ob3_e, ob4_e, ob6_e]
    · refine ⟨mI 1, lt, st, mI 1, lt2, st2, ?_, ?_⟩
      · simp (disch := omega) only [f_X11_soonest, b_X11_soonest_0, hasMatter_y, k0, neg_nI, lit_nI, nI_add, pk_mul, pk_sub, nI_clamp, inB_nI, gd_true, bnd_def, nI_leI, nI_ltI, nI_eq, nI_mI, mI_nI, nle_T, nle_F, nlt_T, nlt_F, neq_T, neq_F, ↓reduceIte, Nat.add_zero, Nat.zero_add, Nat.mul_zero, Nat.reduceAdd, Nat.reduceMul, Nat.reduceSub, ob1_e, ob2_e, ob3_e, ob4_e, ob6_e]
      · simp (disch := omega) only [f_X12_soonest, b_X12_soonest_0, isMatter_y, in_lo (hi := nI 1) k0, neg_nI, lit_nI, nI_add, pk_mul, pk_sub, nI_clamp, inB_nI, gd_true, bnd_def, nI_leI, nI_ltI, nI_eq, nI_mI, mI_nI, nle_T, nle_F, nlt_T, nlt_F, neq_T, neq_F, ↓reduceIte, Nat.add_zero, Nat.zero_add, Nat.mul_zero, Nat.reduceAdd, Nat.reduceMul, Nat.reduceSub, ob1_e, ob2_e, ob3_e, ob4_e, ob6_e]
    · refine ⟨mI 1, lt, st, mI 1, lt2, st2, ?_, ?_⟩
      · simp (disch := omega) only [f_X11_soonest, b_X11_soonest_0, hasMatter_y, k0, k2, neg_nI, lit_nI, nI_add, pk_mul, pk_sub, nI_clamp, inB_nI, gd_true, bnd_def, nI_leI, nI_ltI, nI_eq, nI_mI, mI_nI, nle_T, nle_F, nlt_T, nlt_F, neq_T, neq_F, ↓reduceIte, Nat.add_zero, Nat.zero_add, Nat.mul_zero, Nat.reduceAdd, Nat.reduceMul, Nat.reduceSub, ob1_e, ob2_e, ob3_e, ob4_e, ob6_e]
      · simp (disch := omega) only [f_X12_soonest, b_X12_soonest_0, isMatter_y, in_hi (lo := nI 0) k1, neg_nI, lit_nI, nI_add, pk_mul, pk_sub, nI_clamp, inB_nI, gd_true, bnd_def, nI_leI, nI_ltI, nI_eq, nI_mI, mI_nI, nle_T, nle_F, nlt_T, nlt_F, neq_T, neq_F, ↓reduceIte, Nat.add_zero, Nat.zero_add, Nat.mul_zero, Nat.reduceAdd, Nat.reduceMul, Nat.reduceSub, ob1_e, ob2_e, ob3_e, ob4_e, ob6_e]
  · refine ⟨mI 1, lt, st, mI 1, lt2, st2, ?_, ?_⟩
    · simp (disch := omega) only [f_X11_soonest, b_X11_soonest_0, q1, neg_nI, lit_nI, nI_add, pk_mul, pk_sub, nI_clamp, inB_nI, gd_true, bnd_def, nI_leI, nI_ltI, nI_eq, nI_mI, mI_nI, nle_T, nle_F, nlt_T, nlt_F, neq_T, neq_F, ↓reduceIte, Nat.add_zero, Nat.zero_add, Nat.mul_zero, Nat.reduceAdd, Nat.reduceMul, Nat.reduceSub, ob1_e, ob2_e, ob3_e, ob4_e, ob6_e]
    · simp (disch := omega) only [f_X12_soonest, b_X12_soonest_0, q2, neg_nI, lit_nI, nI_add, pk_mul, pk_sub, nI_clamp, inB_nI, gd_true, bnd_def, nI_leI, nI_ltI, nI_eq, nI_mI, mI_nI, nle_T, nle_F, nlt_T, nlt_F, neq_T, neq_F, ↓reduceIte, Nat.add_zero, Nat.zero_add, Nat.mul_zero, Nat.reduceAdd, Nat.reduceMul, Nat.reduceSub, ob1_e, ob2_e, ob3_e, ob4_e, ob6_e]
end TT
end
section
/-! odds answer -/
section OD
variable {R : R6} {lh : Int32} {ll l0 l1 l2 l3 : Nat → Int32} {mh : Int32} {mc mv mk mt ms mu : Nat → Int32}
variable {G M : Nat} {th ta tn mg mm c m : Nat → Int32}
theorem splitX_l (hX : RiseX R lh ll l0 l1 l2 l3) {g o N : Nat} (hg : g < 6) (ho : o < 6) (hN8 : N ≤ 8) {need ch : Int32} : ∀ (j k D : Nat) (lt st : Nat → Int32) (p w : Int32), k + j = 8 → 2 * j + 1 ≤ D → ∃ r lt' st', f_X7_split D ta lh ll l0 l1 l2 l3 c (nI (10 * g + o)) need (nI N) ch lt st p w (nI k) = some (r, lt', st') := by
  have ed : nI (10 * g + o) / nI 10 = nI g := by
    rw [pk_div (by omega) (by omega) (by omega), show (10 * g + o) / 10 = g by omega]
  have er : rem (nI (10 * g + o)) (nI 10) = nI o := by
    rw [show rem (nI (10 * g + o)) (nI 10) = nI ((10 * g + o) % 10) from pk_rem (by omega) (by omega) (by omega), show (10 * g + o) % 10 = o by omega]
  intro j
  induction j with
  | zero =>
    intro k D lt st p w hk hD
    obtain ⟨D, rfl⟩ : ∃ q, D = q + 1 := ⟨D - 1, by omega⟩
    refine ⟨nI 0, lt, st, ?_⟩
    show g_X7_split (rc_X7_behind D).1 (rc_X7_behind D).2 ta lh ll l0 l1 l2 l3 c (nI (10 * g + o)) need (nI N) ch lt st p w (nI k) = _
    simp (disch := omega) only [g_X7_split, b_X7_split_0, neg_nI, lit_nI, nI_add, pk_mul, pk_sub, nI_clamp, inB_nI, gd_true, bnd_def, nI_leI, nI_ltI, nI_eq, nI_mI, mI_nI, nle_T, nle_F, nlt_T, nlt_F, neq_T, neq_F, ↓reduceIte, Nat.add_zero, Nat.zero_add, Nat.mul_zero, Nat.reduceAdd, Nat.reduceMul, Nat.reduceSub, ob1_e, ob2_e, ob3_e, ob4_e, ob6_e]
  | succ j ih =>
    intro k D lt st p w hk hD
    obtain ⟨D, rfl⟩ : ∃ q, D = q + 1 + 1 := ⟨D - 2, by omega⟩
    by_cases hNk : N ≤ k
    · refine ⟨nI 0, lt, st, ?_⟩
      show g_X7_split (rc_X7_behind (D + 1)).1 (rc_X7_behind (D + 1)).2 ta lh ll l0 l1 l2 l3 c (nI (10 * g + o)) need (nI N) ch lt st p w (nI k) = _
      simp (disch := omega) only [g_X7_split, b_X7_split_0, neg_nI, lit_nI, nI_add, pk_mul, pk_sub, nI_clamp, inB_nI, gd_true, bnd_def, nI_leI, nI_ltI, nI_eq, nI_mI, mI_nI, nle_T, nle_F, nlt_T, nlt_F, neq_T, neq_F, ↓reduceIte, Nat.add_zero, Nat.zero_add, Nat.mul_zero, Nat.reduceAdd, Nat.reduceMul, Nat.reduceSub, ob1_e, ob2_e, ob3_e, ob4_e, ob6_e]
    · by_cases hp : p = nI 0
      · refine ⟨nI 0, lt, st, ?_⟩
        show g_X7_split (rc_X7_behind (D + 1)).1 (rc_X7_behind (D + 1)).2 ta lh ll l0 l1 l2 l3 c (nI (10 * g + o)) need (nI N) ch lt st p w (nI k) = _
        simp (disch := omega) only [g_X7_split, b_X7_split_0, hp, neg_nI, lit_nI, nI_add, pk_mul, pk_sub, nI_clamp, inB_nI, gd_true, bnd_def, nI_leI, nI_ltI, nI_eq, nI_mI, mI_nI, nle_T, nle_F, nlt_T, nlt_F, neq_T, neq_F, ↓reduceIte, Nat.add_zero, Nat.zero_add, Nat.mul_zero, Nat.reduceAdd, Nat.reduceMul, Nat.reduceSub, ob1_e, ob2_e, ob3_e, ob4_e, ob6_e]
      · have beh : ∀ (lt st : Nat → Int32) (p w : Int32), ∃ r lt' st', (rc_X7_behind (D + 1)).1 ta lh ll l0 l1 l2 l3 c (nI (10 * g + o)) need (nI N) ch lt st p w (nI (k + 1)) = some (r, lt', st') := by
          intro lt st p w
          by_cases hw : w < need
          · obtain ⟨r, lt', st', e⟩ := ih (k + 1) D lt st p w (by omega) (by omega)
            refine ⟨r, lt', st', ?_⟩
            show g_X7_behind (rc_X7_behind D).1 (rc_X7_behind D).2 ta lh ll l0 l1 l2 l3 c (nI (10 * g + o)) need (nI N) ch lt st p w (nI (k + 1)) = _
            have e' : (rc_X7_behind D).2 ta lh ll l0 l1 l2 l3 c (nI (10 * g + o)) need (nI N) ch lt st p w (nI (k + 1)) = some (r, lt', st') := e
            simp (disch := omega) only [g_X7_behind, b_X7_behind_0, hw, e', neg_nI, lit_nI, nI_add, pk_mul, pk_sub, nI_clamp, inB_nI, gd_true, bnd_def, nI_leI, nI_ltI, nI_eq, nI_mI, mI_nI, nle_T, nle_F, nlt_T, nlt_F, neq_T, neq_F, ↓reduceIte, Nat.add_zero, Nat.zero_add, Nat.mul_zero, Nat.reduceAdd, Nat.reduceMul, Nat.reduceSub, ob1_e, ob2_e, ob3_e, ob4_e, ob6_e]
          · refine ⟨p, lt, st, ?_⟩
            show g_X7_behind (rc_X7_behind D).1 (rc_X7_behind D).2 ta lh ll l0 l1 l2 l3 c (nI (10 * g + o)) need (nI N) ch lt st p w (nI (k + 1)) = _
            simp (disch := omega) only [g_X7_behind, b_X7_behind_0, hw, neg_nI, lit_nI, nI_add, pk_mul, pk_sub, nI_clamp, inB_nI, gd_true, bnd_def, nI_leI, nI_ltI, nI_eq, nI_mI, mI_nI, nle_T, nle_F, nlt_T, nlt_F, neq_T, neq_F, ↓reduceIte, Nat.add_zero, Nat.zero_add, Nat.mul_zero, Nat.reduceAdd, Nat.reduceMul, Nat.reduceSub, ob1_e, ob2_e, ob3_e, ob4_e, ob6_e]
        obtain ⟨z, lt1, st1, e1⟩ := warmX_e hX (ta := ta) (c := c) (g := g) (o := o) (w := w) (k := nI k) hg ho lt st
        generalize hq : ((p.toInt64 * ch.toInt64) / (100 : Int64)).toInt32 = qq
        obtain ⟨r2, lt2, st2, e2⟩ := beh lt1 st1 qq (w / nI 2)
        obtain ⟨r3, lt3, st3, e3⟩ := beh lt2 st2 (p - qq) z
        refine ⟨r2 + r3, lt3, st3, ?_⟩
        show g_X7_split (rc_X7_behind (D + 1)).1 (rc_X7_behind (D + 1)).2 ta lh ll l0 l1 l2 l3 c (nI (10 * g + o)) need (nI N) ch lt st p w (nI k) = _
        simp (disch := omega) only [g_X7_split, b_X7_split_0, hp, hq, er, ed, e1, e2, e3, neg_nI, lit_nI, nI_add, pk_mul, pk_sub, nI_clamp, inB_nI, gd_true, bnd_def, nI_leI, nI_ltI, nI_eq, nI_mI, mI_nI, nle_T, nle_F, nlt_T, nlt_F, neq_T, neq_F, ↓reduceIte, Nat.add_zero, Nat.zero_add, Nat.mul_zero, Nat.reduceAdd, Nat.reduceMul, Nat.reduceSub, ob1_e, ob2_e, ob3_e, ob4_e, ob6_e]
theorem oddsY_l (hY : RiseY R mh mc mv mk mt ms mu) {g o : Nat} (hg : g < 6) (ho : o < 6) {need ch : Int32} : ∀ (j D : Nat) (lt st : Nat → Int32) (k w p : Int32), j ≤ 8 → j + 1 ≤ D → ∃ r lt' st', f_X12_oddsFrom D mh mc mv mk mt ms mu mg m lt st (nI g) (nI o) need k (nI j) w ch p = some (r, lt', st') := by
  intro j
  induction j with
  | zero =>
    intro D lt st k w p hj hD
    obtain ⟨D, rfl⟩ : ∃ q, D = q + 1 := ⟨D - 1, by omega⟩
    refine ⟨nI 0, lt, st, ?_⟩
    show g_X12_oddsFrom (rc_X12_oddsFrom D) mh mc mv mk mt ms mu mg m lt st (nI g) (nI o) need k (nI 0) w ch p = _
    simp (disch := omega) only [g_X12_oddsFrom, b_X12_oddsFrom_0, neg_nI, lit_nI, nI_add, pk_mul, pk_sub, nI_clamp, inB_nI, gd_true, bnd_def, nI_leI, nI_ltI, nI_eq, nI_mI, mI_nI, nle_T, nle_F, nlt_T, nlt_F, neq_T, neq_F, ↓reduceIte, Nat.add_zero, Nat.zero_add, Nat.mul_zero, Nat.reduceAdd, Nat.reduceMul, Nat.reduceSub, ob1_e, ob2_e, ob3_e, ob4_e, ob6_e]
  | succ j ih =>
    intro D lt st k w p hj hD
    obtain ⟨D, rfl⟩ : ∃ q, D = q + 1 := ⟨D - 1, by omega⟩
    obtain ⟨fu2, hfu⟩ : ∃ q, fu = q + 1 + 1 + 1 := ⟨fu - 3, by have := fu_le; omega⟩
    generalize hq : ((p.toInt64 * ch.toInt64) / (100 : Int64)).toInt32 = qq
    have rc : ∀ (lt st : Nat → Int32) (k w p : Int32), ∃ r lt' st', rc_X12_oddsFrom D mh mc mv mk mt ms mu mg m lt st (nI g) (nI o) need k (nI j) w ch p = some (r, lt', st') := fun lt st k w p => ih D lt st k w p (by omega) (by omega)
    obtain ⟨lt1, st1, e1⟩ := riseFrom_c hY (mg := mg) (m := m) (lt := lt) (st := st) (g := g) (o := o) (w := w) (d := m 68 + k) ⟨hg, ho⟩
    generalize hz : hd (w + rv R (tA mg) m g o w (m 68 + k)) = z
    have s0 : ∀ n, ∃ v lt' st', f_X12_oddsFrom_27 (rc_X12_oddsFrom D) mh mc mv mk mt ms mu mg m (n + 1) lt st (nI g) (nI o) need k (nI (j + 1)) w ch p qq (nI 0) (nI 0) = f_X12_oddsFrom_27 (rc_X12_oddsFrom D) mh mc mv mk mt ms mu mg m n lt' st' (nI g) (nI o) need k (nI (j + 1)) w ch p qq v (nI 1) := by
      intro n
      by_cases hw : z < need
      · obtain ⟨r2, lt2, st2, e2⟩ := rc lt1 st1 (k + nI 1) z (p - qq)
        refine ⟨nI 0 + r2, lt2, st2, ?_⟩
        simp (disch := omega) only [f_X12_oddsFrom_27, b_X12_oddsFrom_27, b_X12_oddsFrom_70, b_X12_oddsFrom_88, b_X12_oddsFrom_124, e1, held_c, hz, hw, e2, Nat.add_sub_cancel, neg_nI, lit_nI, nI_add, pk_mul, pk_sub, nI_clamp, inB_nI, gd_true, bnd_def, nI_leI, nI_ltI, nI_eq, nI_mI, mI_nI, nle_T, nle_F, nlt_T, nlt_F, neq_T, neq_F, ↓reduceIte, Nat.add_zero, Nat.zero_add, Nat.mul_zero, Nat.reduceAdd, Nat.reduceMul, Nat.reduceSub, ob1_e, ob2_e, ob3_e, ob4_e, ob6_e]
      · refine ⟨nI 0 + (p - qq), lt1, st1, ?_⟩
        simp (disch := omega) only [f_X12_oddsFrom_27, b_X12_oddsFrom_27, b_X12_oddsFrom_70, b_X12_oddsFrom_88, b_X12_oddsFrom_124, e1, held_c, hz, hw, neg_nI, lit_nI, nI_add, pk_mul, pk_sub, nI_clamp, inB_nI, gd_true, bnd_def, nI_leI, nI_ltI, nI_eq, nI_mI, mI_nI, nle_T, nle_F, nlt_T, nlt_F, neq_T, neq_F, ↓reduceIte, Nat.add_zero, Nat.zero_add, Nat.mul_zero, Nat.reduceAdd, Nat.reduceMul, Nat.reduceSub, ob1_e, ob2_e, ob3_e, ob4_e, ob6_e]
    obtain ⟨v, lt2, st2, s0⟩ := s0 (fu2 + 1 + 1)
    have s1 : ∀ n, ∃ v' lt' st', f_X12_oddsFrom_27 (rc_X12_oddsFrom D) mh mc mv mk mt ms mu mg m (n + 1) lt2 st2 (nI g) (nI o) need k (nI (j + 1)) w ch p qq v (nI 1) = f_X12_oddsFrom_27 (rc_X12_oddsFrom D) mh mc mv mk mt ms mu mg m n lt' st' (nI g) (nI o) need k (nI (j + 1)) w ch p qq v' (nI 2) := by
      intro n
      by_cases hw : w / nI 2 < need
      · obtain ⟨r3, lt3, st3, e3⟩ := rc lt2 st2 (k + nI 1) (w / nI 2) qq
        refine ⟨v + r3, lt3, st3, ?_⟩
        simp (disch := omega) only [f_X12_oddsFrom_27, b_X12_oddsFrom_27, b_X12_oddsFrom_70, b_X12_oddsFrom_88, b_X12_oddsFrom_124, hw, e3, Nat.add_sub_cancel, neg_nI, lit_nI, nI_add, pk_mul, pk_sub, nI_clamp, inB_nI, gd_true, bnd_def, nI_leI, nI_ltI, nI_eq, nI_mI, mI_nI, nle_T, nle_F, nlt_T, nlt_F, neq_T, neq_F, ↓reduceIte, Nat.add_zero, Nat.zero_add, Nat.mul_zero, Nat.reduceAdd, Nat.reduceMul, Nat.reduceSub, ob1_e, ob2_e, ob3_e, ob4_e, ob6_e]
      · refine ⟨v + qq, lt2, st2, ?_⟩
        simp (disch := omega) only [f_X12_oddsFrom_27, b_X12_oddsFrom_27, b_X12_oddsFrom_70, b_X12_oddsFrom_88, b_X12_oddsFrom_124, hw, neg_nI, lit_nI, nI_add, pk_mul, pk_sub, nI_clamp, inB_nI, gd_true, bnd_def, nI_leI, nI_ltI, nI_eq, nI_mI, mI_nI, nle_T, nle_F, nlt_T, nlt_F, neq_T, neq_F, ↓reduceIte, Nat.add_zero, Nat.zero_add, Nat.mul_zero, Nat.reduceAdd, Nat.reduceMul, Nat.reduceSub, ob1_e, ob2_e, ob3_e, ob4_e, ob6_e]
    obtain ⟨v', lt3, st3, s1⟩ := s1 (fu2 + 1)
    refine ⟨v', lt3, st3, ?_⟩
    show g_X12_oddsFrom (rc_X12_oddsFrom D) mh mc mv mk mt ms mu mg m lt st (nI g) (nI o) need k (nI (j + 1)) w ch p = _
    have s2 : f_X12_oddsFrom_27 (rc_X12_oddsFrom D) mh mc mv mk mt ms mu mg m (fu2 + 1) lt3 st3 (nI g) (nI o) need k (nI (j + 1)) w ch p qq v' (nI 2) = some (v', lt3, st3) := by
      simp (disch := omega) only [f_X12_oddsFrom_27, b_X12_oddsFrom_27, neg_nI, lit_nI, nI_add, pk_mul, pk_sub, nI_clamp, inB_nI, gd_true, bnd_def, nI_leI, nI_ltI, nI_eq, nI_mI, mI_nI, nle_T, nle_F, nlt_T, nlt_F, neq_T, neq_F, ↓reduceIte, Nat.add_zero, Nat.zero_add, Nat.mul_zero, Nat.reduceAdd, Nat.reduceMul, Nat.reduceSub, ob1_e, ob2_e, ob3_e, ob4_e, ob6_e]
    have s3 := (s0.trans s1).trans s2
    rw [← hfu] at s3
    simp (disch := omega) only [g_X12_oddsFrom, b_X12_oddsFrom_0, hq, s3, neg_nI, lit_nI, nI_add, pk_mul, pk_sub, nI_clamp, inB_nI, gd_true, bnd_def, nI_leI, nI_ltI, nI_eq, nI_mI, mI_nI, nle_T, nle_F, nlt_T, nlt_F, neq_T, neq_F, ↓reduceIte, Nat.add_zero, Nat.zero_add, Nat.mul_zero, Nat.reduceAdd, Nat.reduceMul, Nat.reduceSub, ob1_e, ob2_e, ob3_e, ob4_e, ob6_e]
theorem s_odds (hX : RiseX R lh ll l0 l1 l2 l3) (hY : RiseY R mh mc mv mk mt ms mu) (hG : G ≤ 6) (hM : M ≤ 5) (hh : ∀ g, g < G → mg (4 * g) = th g) (an : Nat) (lt st lt2 st2 : Nat → Int32) (qs : Value) (k1 k2 k3 k4 : Int32) (u x y v ch : Int32) : ∃ r lt' st' qs' k1' k2' k3' k4' r2 lt2' st2', f_X11_odds (nI G) (nI M) th ta tn lh ll l0 l1 l2 l3 c an lt st qs k1 k2 k3 k4 u x y v ch = some (r, lt', st', qs', k1', k2', k3', k4') ∧ f_X12_odds (nI G) (nI M) mh mc mv mk mt ms mu mg mm m lt2 st2 u x y v ch = some (r2, lt2', st2') ∧ (qs' = qs ∨ qs' = .ref an) := by
  rcases matter_or u (M := M) (by omega) with ⟨q, hq, rfl⟩ | ⟨q1, q2⟩
  · rcases two_or x y (th := th) (mg := mg) hG hh with ⟨g, o, hg, ho, rfl, rfl, ht⟩ | ⟨q1, q2⟩
    · have g1 := hh g hg
      have g2 := hh o ho
      rcases rng v 8 (by omega) with ⟨N, hN, rfl⟩ | k0 | ⟨k0, k1', k2'⟩
      · rcases rng ch 100 (by omega) with ⟨j, hj, rfl⟩ | k0 | ⟨k0, k1', k2'⟩
        · obtain ⟨r, lt', st', e1⟩ := splitX_l (ta := ta) (c := c) hX (g := g) (o := o) (N := N) (by omega) (by omega) hN (need := tn q) (ch := nI j) 8 0 60 lt st (nI 1000000000) (c (pl g o)) (by omega) (by omega)
          obtain ⟨r2, lt2', st2', e2⟩ := oddsY_l (mg := mg) (m := m) hY (g := g) (o := o) (by omega) (by omega) (need := mm (2 * q + 1)) (ch := nI j) N 60 lt2 st2 (nI 0) (m (pl g o)) (nI 1000000000) hN (by omega)
          have ed : nI (10 * g + o) / nI 10 = nI g := by
            rw [pk_div (by omega) (by omega) (by omega), show (10 * g + o) / 10 = g by omega]
          have er : rem (nI (10 * g + o)) (nI 10) = nI o := by
            rw [show rem (nI (10 * g + o)) (nI 10) = nI ((10 * g + o) % 10) from pk_rem (by omega) (by omega) (by omega), show (10 * g + o) % 10 = o by omega]
          refine ⟨r, lt', st', .ref an, nI (10 * g + o), tn q, nI N, nI j, r2, lt2', st2', ?_, ?_, Or.inr rfl⟩
          · simp (disch := omega) only [f_X11_odds, b_X11_odds_0, f_X7_partsWarm, b_X7_partsWarm_0, hasMatter_y, unlike_c, ht, ed, er, warmthOf_c, e1, ob8_e, neg_nI, lit_nI, nI_add, pk_mul, pk_sub, nI_clamp, inB_nI, gd_true, bnd_def, nI_leI, nI_ltI, nI_eq, nI_mI, mI_nI, nle_T, nle_F, nlt_T, nlt_F, neq_T, neq_F, ↓reduceIte, Nat.add_zero, Nat.zero_add, Nat.mul_zero, Nat.reduceAdd, Nat.reduceMul, Nat.reduceSub, ob1_e, ob2_e, ob3_e, ob4_e, ob6_e]
          · simp (disch := omega) only [f_X12_odds, b_X12_odds_0, isMatter_y, areTwo_c, g1, g2, ht, in_c, pairAt_c, inB_pl, pl_clamp, e2, neg_nI, lit_nI, nI_add, pk_mul, pk_sub, nI_clamp, inB_nI, gd_true, bnd_def, nI_leI, nI_ltI, nI_eq, nI_mI, mI_nI, nle_T, nle_F, nlt_T, nlt_F, neq_T, neq_F, ↓reduceIte, Nat.add_zero, Nat.zero_add, Nat.mul_zero, Nat.reduceAdd, Nat.reduceMul, Nat.reduceSub, ob1_e, ob2_e, ob3_e, ob4_e, ob6_e]
        · refine ⟨mI 1, lt, st, qs, k1, k2, k3, k4, mI 1, lt2, st2, ?_, ?_, Or.inl rfl⟩
          · simp (disch := omega) only [f_X11_odds, b_X11_odds_0, hasMatter_y, unlike_c, ht, k0, neg_nI, lit_nI, nI_add, pk_mul, pk_sub, nI_clamp, inB_nI, gd_true, bnd_def, nI_leI, nI_ltI, nI_eq, nI_mI, mI_nI, nle_T, nle_F, nlt_T, nlt_F, neq_T, neq_F, ↓reduceIte, Nat.add_zero, Nat.zero_add, Nat.mul_zero, Nat.reduceAdd, Nat.reduceMul, Nat.reduceSub, ob1_e, ob2_e, ob3_e, ob4_e, ob6_e]
          · simp (disch := omega) only [f_X12_odds, b_X12_odds_0, isMatter_y, areTwo_c, g1, g2, ht, in_c, in_lo (hi := nI 100) k0, neg_nI, lit_nI, nI_add, pk_mul, pk_sub, nI_clamp, inB_nI, gd_true, bnd_def, nI_leI, nI_ltI, nI_eq, nI_mI, mI_nI, nle_T, nle_F, nlt_T, nlt_F, neq_T, neq_F, ↓reduceIte, Nat.add_zero, Nat.zero_add, Nat.mul_zero, Nat.reduceAdd, Nat.reduceMul, Nat.reduceSub, ob1_e, ob2_e, ob3_e, ob4_e, ob6_e]
        · refine ⟨mI 1, lt, st, qs, k1, k2, k3, k4, mI 1, lt2, st2, ?_, ?_, Or.inl rfl⟩
          · simp (disch := omega) only [f_X11_odds, b_X11_odds_0, hasMatter_y, unlike_c, ht, k0, k2', neg_nI, lit_nI, nI_add, pk_mul, pk_sub, nI_clamp, inB_nI, gd_true, bnd_def, nI_leI, nI_ltI, nI_eq, nI_mI, mI_nI, nle_T, nle_F, nlt_T, nlt_F, neq_T, neq_F, ↓reduceIte, Nat.add_zero, Nat.zero_add, Nat.mul_zero, Nat.reduceAdd, Nat.reduceMul, Nat.reduceSub, ob1_e, ob2_e, ob3_e, ob4_e, ob6_e]
          · simp (disch := omega) only [f_X12_odds, b_X12_odds_0, isMatter_y, areTwo_c, g1, g2, ht, in_c, in_hi (lo := nI 0) k1', neg_nI, lit_nI, nI_add, pk_mul, pk_sub, nI_clamp, inB_nI, gd_true, bnd_def, nI_leI, nI_ltI, nI_eq, nI_mI, mI_nI, nle_T, nle_F, nlt_T, nlt_F, neq_T, neq_F, ↓reduceIte, Nat.add_zero, Nat.zero_add, Nat.mul_zero, Nat.reduceAdd, Nat.reduceMul, Nat.reduceSub, ob1_e, ob2_e, ob3_e, ob4_e, ob6_e]
      · refine ⟨mI 1, lt, st, qs, k1, k2, k3, k4, mI 1, lt2, st2, ?_, ?_, Or.inl rfl⟩
        · simp (disch := omega) only [f_X11_odds, b_X11_odds_0, hasMatter_y, unlike_c, ht, k0, neg_nI, lit_nI, nI_add, pk_mul, pk_sub, nI_clamp, inB_nI, gd_true, bnd_def, nI_leI, nI_ltI, nI_eq, nI_mI, mI_nI, nle_T, nle_F, nlt_T, nlt_F, neq_T, neq_F, ↓reduceIte, Nat.add_zero, Nat.zero_add, Nat.mul_zero, Nat.reduceAdd, Nat.reduceMul, Nat.reduceSub, ob1_e, ob2_e, ob3_e, ob4_e, ob6_e]
        · simp (disch := omega) only [f_X12_odds, b_X12_odds_0, isMatter_y, areTwo_c, g1, g2, ht, in_lo (hi := nI 8) k0, neg_nI, lit_nI, nI_add, pk_mul, pk_sub, nI_clamp, inB_nI, gd_true, bnd_def, nI_leI, nI_ltI, nI_eq, nI_mI, mI_nI, nle_T, nle_F, nlt_T, nlt_F, neq_T, neq_F, ↓reduceIte, Nat.add_zero, Nat.zero_add, Nat.mul_zero, Nat.reduceAdd, Nat.reduceMul, Nat.reduceSub, ob1_e, ob2_e, ob3_e, ob4_e, ob6_e]
      · refine ⟨mI 1, lt, st, qs, k1, k2, k3, k4, mI 1, lt2, st2, ?_, ?_, Or.inl rfl⟩
        · simp (disch := omega) only [f_X11_odds, b_X11_odds_0, hasMatter_y, unlike_c, ht, k0, k1', neg_nI, lit_nI, nI_add, pk_mul, pk_sub, nI_clamp, inB_nI, gd_true, bnd_def, nI_leI, nI_ltI, nI_eq, nI_mI, mI_nI, nle_T, nle_F, nlt_T, nlt_F, neq_T, neq_F, ↓reduceIte, Nat.add_zero, Nat.zero_add, Nat.mul_zero, Nat.reduceAdd, Nat.reduceMul, Nat.reduceSub, ob1_e, ob2_e, ob3_e, ob4_e, ob6_e]
        · simp (disch := omega) only [f_X12_odds, b_X12_odds_0, isMatter_y, areTwo_c, g1, g2, ht, in_hi (lo := nI 0) k1', neg_nI, lit_nI, nI_add, pk_mul, pk_sub, nI_clamp, inB_nI, gd_true, bnd_def, nI_leI, nI_ltI, nI_eq, nI_mI, mI_nI, nle_T, nle_F, nlt_T, nlt_F, neq_T, neq_F, ↓reduceIte, Nat.add_zero, Nat.zero_add, Nat.mul_zero, Nat.reduceAdd, Nat.reduceMul, Nat.reduceSub, ob1_e, ob2_e, ob3_e, ob4_e, ob6_e]
    · refine ⟨mI 1, lt, st, qs, k1, k2, k3, k4, mI 1, lt2, st2, ?_, ?_, Or.inl rfl⟩
      · simp (disch := omega) only [f_X11_odds, b_X11_odds_0, hasMatter_y, q1, neg_nI, lit_nI, nI_add, pk_mul, pk_sub, nI_clamp, inB_nI, gd_true, bnd_def, nI_leI, nI_ltI, nI_eq, nI_mI, mI_nI, nle_T, nle_F, nlt_T, nlt_F, neq_T, neq_F, ↓reduceIte, Nat.add_zero, Nat.zero_add, Nat.mul_zero, Nat.reduceAdd, Nat.reduceMul, Nat.reduceSub, ob1_e, ob2_e, ob3_e, ob4_e, ob6_e]
      · simp (disch := omega) only [f_X12_odds, b_X12_odds_0, isMatter_y, q2, neg_nI, lit_nI, nI_add, pk_mul, pk_sub, nI_clamp, inB_nI, gd_true, bnd_def, nI_leI, nI_ltI, nI_eq, nI_mI, mI_nI, nle_T, nle_F, nlt_T, nlt_F, neq_T, neq_F, ↓reduceIte, Nat.add_zero, Nat.zero_add, Nat.mul_zero, Nat.reduceAdd, Nat.reduceMul, Nat.reduceSub, ob1_e, ob2_e, ob3_e, ob4_e, ob6_e]
  · refine ⟨mI 1, lt, st, qs, k1, k2, k3, k4, mI 1, lt2, st2, ?_, ?_, Or.inl rfl⟩
    · simp (disch := omega) only [f_X11_odds, b_X11_odds_0, q1, neg_nI, lit_nI, nI_add, pk_mul, pk_sub, nI_clamp, inB_nI, gd_true, bnd_def, nI_leI, nI_ltI, nI_eq, nI_mI, mI_nI, nle_T, nle_F, nlt_T, nlt_F, neq_T, neq_F, ↓reduceIte, Nat.add_zero, Nat.zero_add, Nat.mul_zero, Nat.reduceAdd, Nat.reduceMul, Nat.reduceSub, ob1_e, ob2_e, ob3_e, ob4_e, ob6_e]
    · simp (disch := omega) only [f_X12_odds, b_X12_odds_0, q2, neg_nI, lit_nI, nI_add, pk_mul, pk_sub, nI_clamp, inB_nI, gd_true, bnd_def, nI_leI, nI_ltI, nI_eq, nI_mI, mI_nI, nle_T, nle_F, nlt_T, nlt_F, neq_T, neq_F, ↓reduceIte, Nat.add_zero, Nat.zero_add, Nat.mul_zero, Nat.reduceAdd, Nat.reduceMul, Nat.reduceSub, ob1_e, ob2_e, ob3_e, ob4_e, ob6_e]
end OD
end
