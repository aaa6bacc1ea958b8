/-! seen, fits, ask -/
def ftF (p : Nat → Bool) (i : Int32) : Nat → Nat → Int32 → Int32
  | 0, _, v => if i = mI 1 then v else mI 1
  | j + 1, k, v => if p k = true then (if v = i then nI k else ftF p i j (k + 1) (v + nI 1)) else ftF p i j (k + 1) v
theorem bz_t : bz true = nI 1 := (rfl)
theorem bz_f : bz false = nI 0 := (rfl)
def pF (R : R6) (tp : Int32) (tf ts ta s1 s2 s3 s4 : Nat → Int32) (q g k : Nat) : Bool := allF (okS R tp tf ts ta s1 s2 s3 s4 g (nI k)) q 0
def gpF (p : Nat → Bool) (t : Nat → Int32) (v : Int32) : Nat → Nat → Int32 → Int32
  | 0, _, x => x
  | j + 1, k, x => gpF p t v j (k + 1) (if p k = true then (if t k < v then x + mI 1 else x + nI 1) else x)
theorem gpF_b {p : Nat → Bool} {t : Nat → Int32} {v : Int32} : ∀ (j k : Nat) (x : Int32) (b : Nat), b + j ≤ 10 → -(b : Int) ≤ x.toInt → x.toInt ≤ b → -((b + j : Nat) : Int) ≤ (gpF p t v j k x).toInt ∧ (gpF p t v j k x).toInt ≤ ((b + j : Nat) : Int)
  | 0, k, x, b, _, h1, h2 => ⟨by simpa [gpF] using h1, by simpa [gpF] using h2⟩
  | j + 1, k, x, b, hb, h1, h2 => by
    unfold gpF
    have a1 : (mI 1).toInt = -1 := by decide
    have a2 : (nI 1).toInt = 1 := by decide
    have step : ∀ y : Int32, (-((b + 1 : Nat) : Int) ≤ y.toInt ∧ y.toInt ≤ ((b + 1 : Nat) : Int)) → -((b + (j + 1) : Nat) : Int) ≤ (gpF p t v j (k + 1) y).toInt ∧ (gpF p t v j (k + 1) y).toInt ≤ ((b + (j + 1) : Nat) : Int) := by
      intro y hy
      have := gpF_b (p := p) (t := t) (v := v) j (k + 1) y (b + 1) (by omega) hy.1 hy.2
      rw [show b + (j + 1) = b + 1 + j by omega]
      exact this
    apply step
    by_cases hp : p k = true
    · rw [if_pos hp]
      by_cases ht : t k < v
      · rw [if_pos ht, Int32.toInt_add, a1, Int.bmod_eq_of_le (by omega) (by omega)]
        omega
      · rw [if_neg ht, Int32.toInt_add, a2, Int.bmod_eq_of_le (by omega) (by omega)]
        omega
    · rw [if_neg hp]
      omega
theorem ab_lt {x : Int32} (h1 : -10 ≤ x.toInt) (h2 : x.toInt ≤ 10) : ¬ nI 11 ≤ ab x := by
  have a0 : (0 : Int32).toInt = 0 := by decide
  have a1 : (nI 11).toInt = 11 := by decide
  unfold ab
  by_cases h : (0 : Int32) ≤ x
  · rw [if_pos h, le32, a1]
    omega
  · rw [if_neg h, le32, a1, Int32.toInt_sub, a0]
    rw [Int.bmod_eq_of_le (by omega) (by omega)]
    omega
section SF
variable {R : R6} {lh : Int32} {ll l0 l1 l2 l3 : Nat → Int32} {mh : Int32} {mc mv mk mt ms mu : Nat → Int32}
variable {G q : Nat} {tp : Int32} {th tf ts ta mg mr s1 s2 s3 s4 n1 n2 n3 n4 : Nat → Int32}
theorem allow_c (hX : RiseX R lh ll l0 l1 l2 l3) (hG : G ≤ 6) (hS : RS G q s1 s2 s3 s4 n1 n2 n3 n4) {g k : Nat} (hg : g < G) (lt st : Nat → Int32) : ∃ lt' st', f_X8_allow tp tf ts ta lh ll l0 l1 l2 l3 (nI q) s1 s2 s3 s4 lt st (nI g) (nI k) = some (bz (pF R tp tf ts ta s1 s2 s3 s4 q g k), lt', st') := allow_l hX hG hS hg q 0 fu lt st (by omega) (by have := fu_le; have := hS.1; omega)
theorem freedom_c (hY : RiseY R mh mc mv mk mt ms mu) (hG : G ≤ 6) (hf : ∀ g, g < G → mg (4 * g + 1) = tf g) (hs : ∀ g, g < G → mg (4 * g + 2) = ts g) (ha : ∀ g, g < G → mg (4 * g + 3) = ta g) (hp : mr 0 = tp) (hS : RS G q s1 s2 s3 s4 n1 n2 n3 n4) {g k : Nat} (hg : g < G) (lt st : Nat → Int32) : ∃ lt' st', f_X12_isFreedom mh (nI q) mc mv mk mt ms mu mr mg n1 n2 n3 n4 lt st (nI g) (nI k) = some (bz (pF R tp tf ts ta s1 s2 s3 s4 q g k), lt', st') := freedom_l hY hG hf hs ha hp hS hg q 0 fu lt st (by omega) (by have := fu_le; have := hS.1; omega)
theorem fitsX_l (hX : RiseX R lh ll l0 l1 l2 l3) (hG : G ≤ 6) (hS : RS G q s1 s2 s3 s4 n1 n2 n3 n4) {g : Nat} (hg : g < G) {i : Int32} : ∀ (j k n : Nat) (lt st : Nat → Int32) (v : Int32), k + j = 10 → j < n → ∃ lt' st', f_X11_fits_23 (nI G) tp tf ts ta lh ll l0 l1 l2 l3 (nI q) s1 s2 s3 s4 n lt st (nI g) i v (nI k) = some (ftF (pF R tp tf ts ta s1 s2 s3 s4 q g) i j k v, lt', st') := by
  intro j
  induction j with
  | zero =>
    intro k n lt st v hk h1
    obtain ⟨n, rfl⟩ : ∃ q, n = q + 1 := ⟨n - 1, by omega⟩
    refine ⟨lt, st, ?_⟩
    by_cases hi : i = mI 1 <;> simp (disch := omega) only [f_X11_fits_23, f_X11_fits, b_X11_fits_54, b_X11_fits_23, b_X11_fits_0, ftF, hi, neg_nI, lit_nI, nI_add, pk_mul, pk_sub, nI_clamp, inB_nI, gd_true, bnd_def, nI_leI, nI_ltI, nI_eq, nI_mI, mI_nI, nle_T, nle_F, nlt_T, nlt_F, neq_T, neq_F, ↓reduceIte, Nat.add_zero, Nat.zero_add, Nat.mul_zero, Nat.reduceAdd, Nat.reduceMul, Nat.reduceSub, ob1_e, ob2_e, ob3_e, ob4_e, ob6_e]
  | succ j ih =>
    intro k n lt st v hk h1
    obtain ⟨n, rfl⟩ : ∃ q, n = q + 1 := ⟨n - 1, by omega⟩
    obtain ⟨lt1, st1, e⟩ := allow_c (R := R) (tp := tp) (tf := tf) (ts := ts) (ta := ta) hX hG hS (k := k) hg lt st
    cases hp : pF R tp tf ts ta s1 s2 s3 s4 q g k with
    | true =>
      rw [hp] at e
      by_cases hv : v = i
      · refine ⟨lt1, st1, ?_⟩
        simp (disch := omega) only [f_X11_fits_23, f_X11_fits, b_X11_fits_54, b_X11_fits_23, b_X11_fits_0, ftF, e, bz_t, hp, hv, neg_nI, lit_nI, nI_add, pk_mul, pk_sub, nI_clamp, inB_nI, gd_true, bnd_def, nI_leI, nI_ltI, nI_eq, nI_mI, mI_nI, nle_T, nle_F, nlt_T, nlt_F, neq_T, neq_F, ↓reduceIte, Nat.add_zero, Nat.zero_add, Nat.mul_zero, Nat.reduceAdd, Nat.reduceMul, Nat.reduceSub, ob1_e, ob2_e, ob3_e, ob4_e, ob6_e]
      · obtain ⟨lt2, st2, e2⟩ := ih (k + 1) n lt1 st1 (v + nI 1) (by omega) (by omega)
        refine ⟨lt2, st2, ?_⟩
        simp (disch := omega) only [f_X11_fits_23, f_X11_fits, b_X11_fits_54, b_X11_fits_23, b_X11_fits_0, ftF, e, bz_t, hp, hv, e2, neg_nI, lit_nI, nI_add, pk_mul, pk_sub, nI_clamp, inB_nI, gd_true, bnd_def, nI_leI, nI_ltI, nI_eq, nI_mI, mI_nI, nle_T, nle_F, nlt_T, nlt_F, neq_T, neq_F, ↓reduceIte, Nat.add_zero, Nat.zero_add, Nat.mul_zero, Nat.reduceAdd, Nat.reduceMul, Nat.reduceSub, ob1_e, ob2_e, ob3_e, ob4_e, ob6_e]
    | false =>
      rw [hp] at e
      obtain ⟨lt2, st2, e2⟩ := ih (k + 1) n lt1 st1 v (by omega) (by omega)
      refine ⟨lt2, st2, ?_⟩
      simp (disch := omega) only [f_X11_fits_23, f_X11_fits, b_X11_fits_54, b_X11_fits_23, b_X11_fits_0, ftF, e, bz_f, hp, e2, Bool.false_eq_true, neg_nI, lit_nI, nI_add, pk_mul, pk_sub, nI_clamp, inB_nI, gd_true, bnd_def, nI_leI, nI_ltI, nI_eq, nI_mI, mI_nI, nle_T, nle_F, nlt_T, nlt_F, neq_T, neq_F, ↓reduceIte, Nat.add_zero, Nat.zero_add, Nat.mul_zero, Nat.reduceAdd, Nat.reduceMul, Nat.reduceSub, ob1_e, ob2_e, ob3_e, ob4_e, ob6_e]
theorem fitsY_l (hY : RiseY R mh mc mv mk mt ms mu) (hG : G ≤ 6) (hf : ∀ g, g < G → mg (4 * g + 1) = tf g) (hs : ∀ g, g < G → mg (4 * g + 2) = ts g) (ha : ∀ g, g < G → mg (4 * g + 3) = ta g) (hpp : mr 0 = tp) (hS : RS G q s1 s2 s3 s4 n1 n2 n3 n4) {g : Nat} (hg : g < G) {i : Int32} : ∀ (j k n : Nat) (lt st : Nat → Int32) (v : Int32), k + j = 10 → j < n → ∃ lt' st', f_X12_fits_20 (nI G) mh (nI q) mc mv mk mt ms mu mr mg n1 n2 n3 n4 n lt st (nI g) i v (nI k) = some (ftF (pF R tp tf ts ta s1 s2 s3 s4 q g) i j k v, lt', st') := by
  intro j
  induction j with
  | zero =>
    intro k n lt st v hk h1
    obtain ⟨n, rfl⟩ : ∃ q, n = q + 1 := ⟨n - 1, by omega⟩
    refine ⟨lt, st, ?_⟩
    by_cases hi : i = mI 1 <;> simp (disch := omega) only [f_X12_fits_20, f_X12_fits, b_X12_fits_48, b_X12_fits_20, b_X12_fits_0, ftF, hi, neg_nI, lit_nI, nI_add, pk_mul, pk_sub, nI_clamp, inB_nI, gd_true, bnd_def, nI_leI, nI_ltI, nI_eq, nI_mI, mI_nI, nle_T, nle_F, nlt_T, nlt_F, neq_T, neq_F, ↓reduceIte, Nat.add_zero, Nat.zero_add, Nat.mul_zero, Nat.reduceAdd, Nat.reduceMul, Nat.reduceSub, ob1_e, ob2_e, ob3_e, ob4_e, ob6_e]
  | succ j ih =>
    intro k n lt st v hk h1
    obtain ⟨n, rfl⟩ : ∃ q, n = q + 1 := ⟨n - 1, by omega⟩
    obtain ⟨lt1, st1, e⟩ := freedom_c (R := R) (tp := tp) (tf := tf) (ts := ts) (ta := ta) hY hG hf hs ha hpp hS (k := k) hg lt st
    cases hp : pF R tp tf ts ta s1 s2 s3 s4 q g k with
    | true =>
      rw [hp] at e
      by_cases hv : v = i
      · refine ⟨lt1, st1, ?_⟩
        simp (disch := omega) only [f_X12_fits_20, f_X12_fits, b_X12_fits_48, b_X12_fits_20, b_X12_fits_0, ftF, e, bz_t, hp, hv, neg_nI, lit_nI, nI_add, pk_mul, pk_sub, nI_clamp, inB_nI, gd_true, bnd_def, nI_leI, nI_ltI, nI_eq, nI_mI, mI_nI, nle_T, nle_F, nlt_T, nlt_F, neq_T, neq_F, ↓reduceIte, Nat.add_zero, Nat.zero_add, Nat.mul_zero, Nat.reduceAdd, Nat.reduceMul, Nat.reduceSub, ob1_e, ob2_e, ob3_e, ob4_e, ob6_e]
      · obtain ⟨lt2, st2, e2⟩ := ih (k + 1) n lt1 st1 (v + nI 1) (by omega) (by omega)
        refine ⟨lt2, st2, ?_⟩
        simp (disch := omega) only [f_X12_fits_20, f_X12_fits, b_X12_fits_48, b_X12_fits_20, b_X12_fits_0, ftF, e, bz_t, hp, hv, e2, neg_nI, lit_nI, nI_add, pk_mul, pk_sub, nI_clamp, inB_nI, gd_true, bnd_def, nI_leI, nI_ltI, nI_eq, nI_mI, mI_nI, nle_T, nle_F, nlt_T, nlt_F, neq_T, neq_F, ↓reduceIte, Nat.add_zero, Nat.zero_add, Nat.mul_zero, Nat.reduceAdd, Nat.reduceMul, Nat.reduceSub, ob1_e, ob2_e, ob3_e, ob4_e, ob6_e]
    | false =>
      rw [hp] at e
      obtain ⟨lt2, st2, e2⟩ := ih (k + 1) n lt1 st1 v (by omega) (by omega)
      refine ⟨lt2, st2, ?_⟩
      simp (disch := omega) only [f_X12_fits_20, f_X12_fits, b_X12_fits_48, b_X12_fits_20, b_X12_fits_0, ftF, e, bz_f, hp, e2, Bool.false_eq_true, neg_nI, lit_nI, nI_add, pk_mul, pk_sub, nI_clamp, inB_nI, gd_true, bnd_def, nI_leI, nI_ltI, nI_eq, nI_mI, mI_nI, nle_T, nle_F, nlt_T, nlt_F, neq_T, neq_F, ↓reduceIte, Nat.add_zero, Nat.zero_add, Nat.mul_zero, Nat.reduceAdd, Nat.reduceMul, Nat.reduceSub, ob1_e, ob2_e, ob3_e, ob4_e, ob6_e]
theorem s_fits (hX : RiseX R lh ll l0 l1 l2 l3) (hY : RiseY R mh mc mv mk mt ms mu) (hG : G ≤ 6) (hf : ∀ g, g < G → mg (4 * g + 1) = tf g) (hs : ∀ g, g < G → mg (4 * g + 2) = ts g) (ha : ∀ g, g < G → mg (4 * g + 3) = ta g) (hpp : mr 0 = tp) (hS : RS G q s1 s2 s3 s4 n1 n2 n3 n4) (lt st lt2 st2 : Nat → Int32) (x i : Int32) : ∃ r lt' st' lt2' st2', f_X11_fits (nI G) tp tf ts ta lh ll l0 l1 l2 l3 (nI q) s1 s2 s3 s4 lt st x i = some (r, lt', st') ∧ f_X12_fits (nI G) mh (nI q) mc mv mk mt ms mu mr mg n1 n2 n3 n4 lt2 st2 x i = some (r, lt2', st2') := by
  rcases glove_or x hG with ⟨g, hg, rfl⟩ | ⟨q1, q2⟩
  · by_cases hi : mI 1 ≤ i
    · obtain ⟨lt', st', e1⟩ := fitsX_l (R := R) (tp := tp) (tf := tf) (ts := ts) (ta := ta) hX hG hS hg (i := i) 10 0 fu lt st (nI 0) (by omega) (by have := fu_le; omega)
      obtain ⟨lt2', st2', e2⟩ := fitsY_l (R := R) (tp := tp) (tf := tf) (ts := ts) (ta := ta) hY hG hf hs ha hpp hS hg (i := i) 10 0 fu lt2 st2 (nI 0) (by omega) (by have := fu_le; omega)
      refine ⟨ftF (pF R tp tf ts ta s1 s2 s3 s4 q g) i 10 0 (nI 0), lt', st', lt2', st2', ?_, ?_⟩
      · rw [← e1]
        simp (disch := omega) only [f_X11_fits, b_X11_fits_54, b_X11_fits_23, b_X11_fits_0, hasGlove_y, hi, neg_nI, lit_nI, nI_add, pk_mul, pk_sub, nI_clamp, inB_nI, gd_true, bnd_def, nI_leI, nI_ltI, nI_eq, nI_mI, mI_nI, nle_T, nle_F, nlt_T, nlt_F, neq_T, neq_F, ↓reduceIte, Nat.add_zero, Nat.zero_add, Nat.mul_zero, Nat.reduceAdd, Nat.reduceMul, Nat.reduceSub, ob1_e, ob2_e, ob3_e, ob4_e, ob6_e]
      · rw [← e2]
        simp (disch := omega) only [f_X12_fits, b_X12_fits_48, b_X12_fits_20, b_X12_fits_0, isGlove_y, hi, neg_nI, lit_nI, nI_add, pk_mul, pk_sub, nI_clamp, inB_nI, gd_true, bnd_def, nI_leI, nI_ltI, nI_eq, nI_mI, mI_nI, nle_T, nle_F, nlt_T, nlt_F, neq_T, neq_F, ↓reduceIte, Nat.add_zero, Nat.zero_add, Nat.mul_zero, Nat.reduceAdd, Nat.reduceMul, Nat.reduceSub, ob1_e, ob2_e, ob3_e, ob4_e, ob6_e]
    · refine ⟨mI 1, lt, st, lt2, st2, ?_, ?_⟩
      · simp (disch := omega) only [f_X11_fits, b_X11_fits_54, b_X11_fits_23, b_X11_fits_0, hasGlove_y, hi, neg_nI, lit_nI, nI_add, pk_mul, pk_sub, nI_clamp, inB_nI, gd_true, bnd_def, nI_leI, nI_ltI, nI_eq, nI_mI, mI_nI, nle_T, nle_F, nlt_T, nlt_F, neq_T, neq_F, ↓reduceIte, Nat.add_zero, Nat.zero_add, Nat.mul_zero, Nat.reduceAdd, Nat.reduceMul, Nat.reduceSub, ob1_e, ob2_e, ob3_e, ob4_e, ob6_e]
      · simp (disch := omega) only [f_X12_fits, b_X12_fits_48, b_X12_fits_20, b_X12_fits_0, isGlove_y, hi, neg_nI, lit_nI, nI_add, pk_mul, pk_sub, nI_clamp, inB_nI, gd_true, bnd_def, nI_leI, nI_ltI, nI_eq, nI_mI, mI_nI, nle_T, nle_F, nlt_T, nlt_F, neq_T, neq_F, ↓reduceIte, Nat.add_zero, Nat.zero_add, Nat.mul_zero, Nat.reduceAdd, Nat.reduceMul, Nat.reduceSub, ob1_e, ob2_e, ob3_e, ob4_e, ob6_e]
  · refine ⟨mI 1, lt, st, lt2, st2, ?_, ?_⟩
    · simp (disch := omega) only [f_X11_fits, b_X11_fits_54, b_X11_fits_23, b_X11_fits_0, q1, neg_nI, lit_nI, nI_add, pk_mul, pk_sub, nI_clamp, inB_nI, gd_true, bnd_def, nI_leI, nI_ltI, nI_eq, nI_mI, mI_nI, nle_T, nle_F, nlt_T, nlt_F, neq_T, neq_F, ↓reduceIte, Nat.add_zero, Nat.zero_add, Nat.mul_zero, Nat.reduceAdd, Nat.reduceMul, Nat.reduceSub, ob1_e, ob2_e, ob3_e, ob4_e, ob6_e]
    · simp (disch := omega) only [f_X12_fits, b_X12_fits_48, b_X12_fits_20, b_X12_fits_0, q2, neg_nI, lit_nI, nI_add, pk_mul, pk_sub, nI_clamp, inB_nI, gd_true, bnd_def, nI_leI, nI_ltI, nI_eq, nI_mI, mI_nI, nle_T, nle_F, nlt_T, nlt_F, neq_T, neq_F, ↓reduceIte, Nat.add_zero, Nat.zero_add, Nat.mul_zero, Nat.reduceAdd, Nat.reduceMul, Nat.reduceSub, ob1_e, ob2_e, ob3_e, ob4_e, ob6_e]
/-- rises in bounds, by both -/
theorem noRise_or (v : Int32) : (f_X11_isNoRise v = some (nI 0) ∧ f_X12_in v (mI 9) (nI 9) = some (nI 1)) ∨ (f_X11_isNoRise v = some (nI 1) ∧ f_X12_in v (mI 9) (nI 9) = some (nI 0)) := by
  by_cases h1 : v < mI 9
  · refine Or.inr ⟨?_, in_lo h1⟩
    simp (disch := omega) only [f_X11_isNoRise, b_X11_isNoRise_12, b_X11_isNoRise_0, h1, neg_nI, lit_nI, nI_add, pk_mul, pk_sub, nI_clamp, inB_nI, gd_true, bnd_def, nI_leI, nI_ltI, nI_eq, nI_mI, mI_nI, nle_T, nle_F, nlt_T, nlt_F, neq_T, neq_F, ↓reduceIte, Nat.add_zero, Nat.zero_add, Nat.mul_zero, Nat.reduceAdd, Nat.reduceMul, Nat.reduceSub, ob1_e, ob2_e, ob3_e, ob4_e, ob6_e]
  · by_cases h2 : v ≤ nI 9
    · refine Or.inl ⟨?_, in_y h1 ?_⟩
      · simp (disch := omega) only [f_X11_isNoRise, b_X11_isNoRise_12, b_X11_isNoRise_0, h1, h2, neg_nI, lit_nI, nI_add, pk_mul, pk_sub, nI_clamp, inB_nI, gd_true, bnd_def, nI_leI, nI_ltI, nI_eq, nI_mI, mI_nI, nle_T, nle_F, nlt_T, nlt_F, neq_T, neq_F, ↓reduceIte, Nat.add_zero, Nat.zero_add, Nat.mul_zero, Nat.reduceAdd, Nat.reduceMul, Nat.reduceSub, ob1_e, ob2_e, ob3_e, ob4_e, ob6_e]
      · rw [le32] at h2
        rw [lt32]
        omega
    · refine Or.inr ⟨?_, in_hi ?_⟩
      · simp (disch := omega) only [f_X11_isNoRise, b_X11_isNoRise_12, b_X11_isNoRise_0, h1, h2, neg_nI, lit_nI, nI_add, pk_mul, pk_sub, nI_clamp, inB_nI, gd_true, bnd_def, nI_leI, nI_ltI, nI_eq, nI_mI, mI_nI, nle_T, nle_F, nlt_T, nlt_F, neq_T, neq_F, ↓reduceIte, Nat.add_zero, Nat.zero_add, Nat.mul_zero, Nat.reduceAdd, Nat.reduceMul, Nat.reduceSub, ob1_e, ob2_e, ob3_e, ob4_e, ob6_e]
      · rw [le32] at h2
        rw [lt32]
        omega
theorem s_seen (hG : G ≤ 6) (hh : ∀ g, g < G → mg (4 * g) = th g) (hS : RS G q s1 s2 s3 s4 n1 n2 n3 n4) (x y v w : Int32) : ∃ r q' s1' s2' s3' s4' n1' n2' n3' n4', f_X11_seen (nI G) th (nI q) s1 s2 s3 s4 x y v w = some (r, nI q', s1', s2', s3', s4') ∧ f_X12_seen (nI G) mg (nI q) n1 n2 n3 n4 x y v w = some (r, nI q', n1', n2', n3', n4') ∧ RS G q' s1' s2' s3' s4' n1' n2' n3' n4' := by
  have hq := hS.1
  rcases two_or x y (th := th) (mg := mg) hG hh with ⟨g, o, hg, ho, rfl, rfl, ht⟩ | ⟨q1, q2⟩
  · have g1 := hh g hg
    have g2 := hh o ho
    rcases noRise_or v with ⟨r1, r2⟩ | ⟨r1, r2⟩
    · by_cases h10 : q = 10
      · refine ⟨mI 1, q, s1, s2, s3, s4, n1, n2, n3, n4, ?_, ?_, hS⟩
        · simp (disch := omega) only [f_X11_seen, b_X11_seen_0, f_X8_isFull, b_X8_isFull_0, unlike_c, ht, r1, neg_nI, lit_nI, nI_add, pk_mul, pk_sub, nI_clamp, inB_nI, gd_true, bnd_def, nI_leI, nI_ltI, nI_eq, nI_mI, mI_nI, nle_T, nle_F, nlt_T, nlt_F, neq_T, neq_F, ↓reduceIte, Nat.add_zero, Nat.zero_add, Nat.mul_zero, Nat.reduceAdd, Nat.reduceMul, Nat.reduceSub, ob1_e, ob2_e, ob3_e, ob4_e, ob6_e]
        · simp (disch := omega) only [f_X12_seen, b_X12_seen_0, areTwo_c, g1, g2, ht, r2, neg_nI, lit_nI, nI_add, pk_mul, pk_sub, nI_clamp, inB_nI, gd_true, bnd_def, nI_leI, nI_ltI, nI_eq, nI_mI, mI_nI, nle_T, nle_F, nlt_T, nlt_F, neq_T, neq_F, ↓reduceIte, Nat.add_zero, Nat.zero_add, Nat.mul_zero, Nat.reduceAdd, Nat.reduceMul, Nat.reduceSub, ob1_e, ob2_e, ob3_e, ob4_e, ob6_e]
      · refine ⟨nI (q + 1), q + 1, upd s1 q (nI g), upd s2 q (nI o), upd s3 q v, upd s4 q (vp_nar .boolean w), upd n1 q (nI g), upd n2 q (nI o), upd n3 q v, upd n4 q (vp_nar .boolean w), ?_, ?_, by omega, fun i hi => ?_⟩
        · simp (disch := omega) only [f_X11_seen, b_X11_seen_0, f_X8_isFull, b_X8_isFull_0, f_X8_add, b_X8_add_0, unlike_c, ht, r1, ob5_e, neg_nI, lit_nI, nI_add, pk_mul, pk_sub, nI_clamp, inB_nI, gd_true, bnd_def, nI_leI, nI_ltI, nI_eq, nI_mI, mI_nI, nle_T, nle_F, nlt_T, nlt_F, neq_T, neq_F, ↓reduceIte, Nat.add_zero, Nat.zero_add, Nat.mul_zero, Nat.reduceAdd, Nat.reduceMul, Nat.reduceSub, ob1_e, ob2_e, ob3_e, ob4_e, ob6_e]
        · simp (disch := omega) only [f_X12_seen, b_X12_seen_0, areTwo_c, g1, g2, ht, r2, neg_nI, lit_nI, nI_add, pk_mul, pk_sub, nI_clamp, inB_nI, gd_true, bnd_def, nI_leI, nI_ltI, nI_eq, nI_mI, mI_nI, nle_T, nle_F, nlt_T, nlt_F, neq_T, neq_F, ↓reduceIte, Nat.add_zero, Nat.zero_add, Nat.mul_zero, Nat.reduceAdd, Nat.reduceMul, Nat.reduceSub, ob1_e, ob2_e, ob3_e, ob4_e, ob6_e]
        · by_cases e : i = q
          · rw [upd_y e, upd_y e, upd_y e, upd_y e, upd_y e, upd_y e, upd_y e, upd_y e]
            exact ⟨rfl, rfl, rfl, rfl, ⟨g, hg, rfl⟩, o, ho, rfl⟩
          · rw [upd_n e, upd_n e, upd_n e, upd_n e, upd_n e, upd_n e, upd_n e, upd_n e]
            exact hS.2 i (by omega)
    · refine ⟨mI 1, q, s1, s2, s3, s4, n1, n2, n3, n4, ?_, ?_, hS⟩
      · simp (disch := omega) only [f_X11_seen, b_X11_seen_0, unlike_c, ht, r1, neg_nI, lit_nI, nI_add, pk_mul, pk_sub, nI_clamp, inB_nI, gd_true, bnd_def, nI_leI, nI_ltI, nI_eq, nI_mI, mI_nI, nle_T, nle_F, nlt_T, nlt_F, neq_T, neq_F, ↓reduceIte, Nat.add_zero, Nat.zero_add, Nat.mul_zero, Nat.reduceAdd, Nat.reduceMul, Nat.reduceSub, ob1_e, ob2_e, ob3_e, ob4_e, ob6_e]
      · simp (disch := omega) only [f_X12_seen, b_X12_seen_0, areTwo_c, g1, g2, ht, r2, neg_nI, lit_nI, nI_add, pk_mul, pk_sub, nI_clamp, inB_nI, gd_true, bnd_def, nI_leI, nI_ltI, nI_eq, nI_mI, mI_nI, nle_T, nle_F, nlt_T, nlt_F, neq_T, neq_F, ↓reduceIte, Nat.add_zero, Nat.zero_add, Nat.mul_zero, Nat.reduceAdd, Nat.reduceMul, Nat.reduceSub, ob1_e, ob2_e, ob3_e, ob4_e, ob6_e]
  · refine ⟨mI 1, q, s1, s2, s3, s4, n1, n2, n3, n4, ?_, ?_, hS⟩
    · simp (disch := omega) only [f_X11_seen, b_X11_seen_0, q1, neg_nI, lit_nI, nI_add, pk_mul, pk_sub, nI_clamp, inB_nI, gd_true, bnd_def, nI_leI, nI_ltI, nI_eq, nI_mI, mI_nI, nle_T, nle_F, nlt_T, nlt_F, neq_T, neq_F, ↓reduceIte, Nat.add_zero, Nat.zero_add, Nat.mul_zero, Nat.reduceAdd, Nat.reduceMul, Nat.reduceSub, ob1_e, ob2_e, ob3_e, ob4_e, ob6_e]
    · simp (disch := omega) only [f_X12_seen, b_X12_seen_0, q2, neg_nI, lit_nI, nI_add, pk_mul, pk_sub, nI_clamp, inB_nI, gd_true, bnd_def, nI_leI, nI_ltI, nI_eq, nI_mI, mI_nI, nle_T, nle_F, nlt_T, nlt_F, neq_T, neq_F, ↓reduceIte, Nat.add_zero, Nat.zero_add, Nat.mul_zero, Nat.reduceAdd, Nat.reduceMul, Nat.reduceSub, ob1_e, ob2_e, ob3_e, ob4_e, ob6_e]
end SF
