/-! signs and digits by both -/
def cIs (n a : Nat) (c : Int32) (t u : Nat → Int32) : Prop := (c = mI 1 ∧ a = n) ∨ ∃ b, 0 < b ∧ b ≤ 255 ∧ b ≠ 32 ∧ c = nI b ∧ a < n ∧ t a = nI b ∧ u a = nI b
def SG (n : Nat) (t u : Nat → Int32) (a a' : Nat) (c : Int32) : Prop := a ≤ a' ∧ a' ≤ n ∧ f_X10_sign (nI n) t (nI a) = some (c, nI a') ∧ f_X12_look (nI n) u (nI a) = some (c, nI a') ∧ f_X10_sign (nI n) t (nI a') = some (c, nI a') ∧ f_X12_look (nI n) u (nI a') = some (c, nI a') ∧ cIs n a' c t u
section TP
variable {n : Nat} {t u : Nat → Int32}
theorem here_out {a : Nat} (h : n ≤ a ∧ a < 2 ^ 30) : f_X12_here (nI n) (nI a) u = some (mI 1) := by
  simp (disch := omega) only [f_X12_here, b_X12_here_0, neg_nI, lit_nI, nI_add, pk_mul, pk_sub, nI_clamp, inB_nI, gd_true, bnd_def, nI_leI, nI_ltI, nI_eq, nI_mI, mI_nI, nle_T, nle_F, nlt_T, nlt_F, neq_T, neq_F, ↓reduceIte, Nat.add_zero, Nat.zero_add, Nat.mul_zero, Nat.reduceAdd, Nat.reduceMul, Nat.reduceSub]
theorem here_in {a : Nat} (h : a < n ∧ n ≤ 240) : f_X12_here (nI n) (nI a) u = some (u a) := by
  simp (disch := omega) only [f_X12_here, b_X12_here_0, neg_nI, lit_nI, nI_add, pk_mul, pk_sub, nI_clamp, inB_nI, gd_true, bnd_def, nI_leI, nI_ltI, nI_eq, nI_mI, mI_nI, nle_T, nle_F, nlt_T, nlt_F, neq_T, neq_F, ↓reduceIte, Nat.add_zero, Nat.zero_add, Nat.mul_zero, Nat.reduceAdd, Nat.reduceMul, Nat.reduceSub]
theorem sg_st {a : Nat} {c : Int32} (hn : n ≤ 240) (h : cIs n a c t u) (k : Nat) : f_X10_sign_0 (nI n) t (k + 1) (nI a) = some (c, nI a) ∧ f_X12_look_0 (nI n) u (k + 1) (nI a) = some (c, nI a) := by
  rcases h with ⟨rfl, rfl⟩ | ⟨b, b0, b1, b2, rfl, ha, et, eu⟩
  · constructor
    · simp (disch := omega) only [f_X10_sign_0, b_X10_sign_0, neg_nI, lit_nI, nI_add, pk_mul, pk_sub, nI_clamp, inB_nI, gd_true, bnd_def, nI_leI, nI_ltI, nI_eq, nI_mI, mI_nI, nle_T, nle_F, nlt_T, nlt_F, neq_T, neq_F, ↓reduceIte, Nat.add_zero, Nat.zero_add, Nat.mul_zero, Nat.reduceAdd, Nat.reduceMul, Nat.reduceSub]
    · simp (disch := omega) only [f_X12_look_0, b_X12_look_0, here_out, neg_nI, lit_nI, nI_add, pk_mul, pk_sub, nI_clamp, inB_nI, gd_true, bnd_def, nI_leI, nI_ltI, nI_eq, nI_mI, mI_nI, nle_T, nle_F, nlt_T, nlt_F, neq_T, neq_F, ↓reduceIte, Nat.add_zero, Nat.zero_add, Nat.mul_zero, Nat.reduceAdd, Nat.reduceMul, Nat.reduceSub, ob1_e, ob2_e, ob3_e, ob4_e, ob6_e]
  · constructor
    · simp (disch := omega) only [f_X10_sign_0, b_X10_sign_0, et, neg_nI, lit_nI, nI_add, pk_mul, pk_sub, nI_clamp, inB_nI, gd_true, bnd_def, nI_leI, nI_ltI, nI_eq, nI_mI, mI_nI, nle_T, nle_F, nlt_T, nlt_F, neq_T, neq_F, ↓reduceIte, Nat.add_zero, Nat.zero_add, Nat.mul_zero, Nat.reduceAdd, Nat.reduceMul, Nat.reduceSub]
    · simp (disch := omega) only [f_X12_look_0, b_X12_look_0, here_in, eu, neg_nI, lit_nI, nI_add, pk_mul, pk_sub, nI_clamp, inB_nI, gd_true, bnd_def, nI_leI, nI_ltI, nI_eq, nI_mI, mI_nI, nle_T, nle_F, nlt_T, nlt_F, neq_T, neq_F, ↓reduceIte, Nat.add_zero, Nat.zero_add, Nat.mul_zero, Nat.reduceAdd, Nat.reduceMul, Nat.reduceSub, ob1_e, ob2_e, ob3_e, ob4_e, ob6_e]
theorem sg_l (hn : n ≤ 240) (h : RT n t u) : ∀ (j a : Nat), a + j = n → ∃ a' c, a ≤ a' ∧ a' ≤ n ∧ cIs n a' c t u ∧ ∀ k, j < k → f_X10_sign_0 (nI n) t k (nI a) = some (c, nI a') ∧ f_X12_look_0 (nI n) u k (nI a) = some (c, nI a')
  | 0, a, e => by
    refine ⟨a, mI 1, by omega, by omega, Or.inl ⟨rfl, by omega⟩, fun k hk => ?_⟩
    obtain ⟨k, rfl⟩ : ∃ k', k = k' + 1 := ⟨k - 1, by omega⟩
    exact sg_st hn (Or.inl ⟨rfl, by omega⟩) k
  | j + 1, a, e => by
    obtain ⟨e1, b, b0, b1, e2⟩ := h a (by omega)
    by_cases q : b = 32
    · obtain ⟨a', c, h1, h2, h3, h4⟩ := sg_l hn h j (a + 1) (by omega)
      refine ⟨a', c, by omega, h2, h3, fun k hk => ?_⟩
      obtain ⟨k, rfl⟩ : ∃ k', k = k' + 1 := ⟨k - 1, by omega⟩
      obtain ⟨h5, h6⟩ := h4 k (by omega)
      subst q
      have e3 : u a = nI 32 := by rw [← e1, e2]
      constructor
      · rw [← h5]
        simp (disch := omega) only [f_X10_sign_0, b_X10_sign_0, e2, neg_nI, lit_nI, nI_add, pk_mul, pk_sub, nI_clamp, inB_nI, gd_true, bnd_def, nI_leI, nI_ltI, nI_eq, nI_mI, mI_nI, nle_T, nle_F, nlt_T, nlt_F, neq_T, neq_F, ↓reduceIte, Nat.add_zero, Nat.zero_add, Nat.mul_zero, Nat.reduceAdd, Nat.reduceMul, Nat.reduceSub]
      · rw [← h6]
        simp (disch := omega) only [f_X12_look_0, b_X12_look_0, here_in, e3, neg_nI, lit_nI, nI_add, pk_mul, pk_sub, nI_clamp, inB_nI, gd_true, bnd_def, nI_leI, nI_ltI, nI_eq, nI_mI, mI_nI, nle_T, nle_F, nlt_T, nlt_F, neq_T, neq_F, ↓reduceIte, Nat.add_zero, Nat.zero_add, Nat.mul_zero, Nat.reduceAdd, Nat.reduceMul, Nat.reduceSub, ob1_e, ob2_e, ob3_e, ob4_e, ob6_e]
    · have hc : cIs n a (nI b) t u := Or.inr ⟨b, b0, b1, q, rfl, by omega, e2, by rw [← e1, e2]⟩
      refine ⟨a, nI b, by omega, by omega, hc, fun k hk => ?_⟩
      obtain ⟨k, rfl⟩ : ∃ k', k = k' + 1 := ⟨k - 1, by omega⟩
      exact sg_st hn hc k
theorem sg_c (hn : n ≤ 240) (h : RT n t u) {a : Nat} (ha : a ≤ n) : ∃ a' c, SG n t u a a' c := by
  obtain ⟨a', c, h1, h2, h3, h4⟩ := sg_l hn h (n - a) a (by omega)
  have hf := fu_le
  obtain ⟨h5, h6⟩ := h4 fu (by omega)
  obtain ⟨k, e⟩ : ∃ k, fu = k + 1 := ⟨fu - 1, by omega⟩
  obtain ⟨h7, h8⟩ := sg_st hn h3 k
  rw [← e] at h7 h8
  exact ⟨a', c, h1, h2, h5, h6, h7, h8, h3⟩
theorem isDigit_y {d : Nat} (h : d ≤ 9) : f_X12_isDigit (nI (48 + d)) = some (nI 1) := by
  simp (disch := omega) only [f_X12_isDigit, b_X12_isDigit_0, neg_nI, lit_nI, nI_add, pk_mul, pk_sub, nI_clamp, inB_nI, gd_true, bnd_def, nI_leI, nI_ltI, nI_eq, nI_mI, mI_nI, nle_T, nle_F, nlt_T, nlt_F, neq_T, neq_F, ↓reduceIte, Nat.add_zero, Nat.zero_add, Nat.mul_zero, Nat.reduceAdd, Nat.reduceMul, Nat.reduceSub]
theorem isDigit_m : f_X12_isDigit (mI 1) = some (nI 0) := by
  unfold f_X12_isDigit b_X12_isDigit_0
  rw [if_pos (by decide)]; rfl
theorem isDigit_n {b : Nat} (h : b ≤ 255) (h2 : b < 48 ∨ 57 < b) : f_X12_isDigit (nI b) = some (nI 0) := by
  rcases h2 with h2 | h2
  · simp (disch := omega) only [f_X12_isDigit, b_X12_isDigit_0, neg_nI, lit_nI, nI_add, pk_mul, pk_sub, nI_clamp, inB_nI, gd_true, bnd_def, nI_leI, nI_ltI, nI_eq, nI_mI, mI_nI, nle_T, nle_F, nlt_T, nlt_F, neq_T, neq_F, ↓reduceIte, Nat.add_zero, Nat.zero_add, Nat.mul_zero, Nat.reduceAdd, Nat.reduceMul, Nat.reduceSub]
  · simp (disch := omega) only [f_X12_isDigit, b_X12_isDigit_0, neg_nI, lit_nI, nI_add, pk_mul, pk_sub, nI_clamp, inB_nI, gd_true, bnd_def, nI_leI, nI_ltI, nI_eq, nI_mI, mI_nI, nle_T, nle_F, nlt_T, nlt_F, neq_T, neq_F, ↓reduceIte, Nat.add_zero, Nat.zero_add, Nat.mul_zero, Nat.reduceAdd, Nat.reduceMul, Nat.reduceSub]
/-- a place holds a digit, or it doesn't -/
def DY (n : Nat) (t u : Nat → Int32) (a d : Nat) : Prop := d ≤ 9 ∧ a < n ∧ t a = nI (48 + d) ∧ f_X10_isAtDigit (nI n) (nI a) t = some (nI 1) ∧ f_X12_here (nI n) (nI a) u = some (nI (48 + d)) ∧ f_X12_isDigit (nI (48 + d)) = some (nI 1)
def DN (n : Nat) (t u : Nat → Int32) (a : Nat) : Prop := f_X10_isAtDigit (nI n) (nI a) t = some (nI 0) ∧ ∃ c, f_X12_here (nI n) (nI a) u = some c ∧ f_X12_isDigit c = some (nI 0)
theorem dg_c (hn : n ≤ 240) (h : RT n t u) {a : Nat} (ha : a ≤ n) : (∃ d, DY n t u a d) ∨ DN n t u a := by
  rcases Nat.lt_or_ge a n with q | q
  · obtain ⟨e1, b, b0, b1, e2⟩ := h a q
    have e3 : u a = nI b := by rw [← e1, e2]
    have hh : f_X12_here (nI n) (nI a) u = some (nI b) := by rw [here_in ⟨q, hn⟩, e3]
    by_cases q1 : b < 48
    · right
      refine ⟨?_, nI b, hh, isDigit_n b1 (Or.inl q1)⟩
      simp (disch := omega) only [f_X10_isAtDigit, b_X10_isAtDigit_0, e2, neg_nI, lit_nI, nI_add, pk_mul, pk_sub, nI_clamp, inB_nI, gd_true, bnd_def, nI_leI, nI_ltI, nI_eq, nI_mI, mI_nI, nle_T, nle_F, nlt_T, nlt_F, neq_T, neq_F, ↓reduceIte, Nat.add_zero, Nat.zero_add, Nat.mul_zero, Nat.reduceAdd, Nat.reduceMul, Nat.reduceSub]
    by_cases q2 : 57 < b
    · right
      refine ⟨?_, nI b, hh, isDigit_n b1 (Or.inr q2)⟩
      simp (disch := omega) only [f_X10_isAtDigit, b_X10_isAtDigit_0, e2, neg_nI, lit_nI, nI_add, pk_mul, pk_sub, nI_clamp, inB_nI, gd_true, bnd_def, nI_leI, nI_ltI, nI_eq, nI_mI, mI_nI, nle_T, nle_F, nlt_T, nlt_F, neq_T, neq_F, ↓reduceIte, Nat.add_zero, Nat.zero_add, Nat.mul_zero, Nat.reduceAdd, Nat.reduceMul, Nat.reduceSub]
    · left
      obtain ⟨d, rfl⟩ : ∃ d, b = 48 + d := ⟨b - 48, by omega⟩
      refine ⟨d, by omega, q, e2, ?_, hh, isDigit_y (by omega)⟩
      simp (disch := omega) only [f_X10_isAtDigit, b_X10_isAtDigit_0, e2, neg_nI, lit_nI, nI_add, pk_mul, pk_sub, nI_clamp, inB_nI, gd_true, bnd_def, nI_leI, nI_ltI, nI_eq, nI_mI, mI_nI, nle_T, nle_F, nlt_T, nlt_F, neq_T, neq_F, ↓reduceIte, Nat.add_zero, Nat.zero_add, Nat.mul_zero, Nat.reduceAdd, Nat.reduceMul, Nat.reduceSub]
  · right
    refine ⟨?_, mI 1, here_out ⟨q, by omega⟩, isDigit_m⟩
    simp (disch := omega) only [f_X10_isAtDigit, b_X10_isAtDigit_0, neg_nI, lit_nI, nI_add, pk_mul, pk_sub, nI_clamp, inB_nI, gd_true, bnd_def, nI_leI, nI_ltI, nI_eq, nI_mI, mI_nI, nle_T, nle_F, nlt_T, nlt_F, neq_T, neq_F, ↓reduceIte, Nat.add_zero, Nat.zero_add, Nat.mul_zero, Nat.reduceAdd, Nat.reduceMul, Nat.reduceSub]
theorem s48 (x e : Nat) : x + (48 + e) - 48 = x + e := by omega
theorem m10 (x : Nat) : x * 10 = 10 * x := Nat.mul_comm _ _
theorem bad_n (a : Int32) : f_X12_bad a (mI 1) = some a := by
  unfold f_X12_bad b_X12_bad_0 b_X12_bad_20
  rw [if_pos (show mI 1 = (-1 : Int32) from rfl)]
theorem bad_o (a : Int32) {w : Nat} (h : w < 2 ^ 30) : f_X12_bad a (nI w) = some (nI w) := by
  unfold f_X12_bad b_X12_bad_0 b_X12_bad_20
  rw [if_neg (by intro e; exact (nI_mI (n := w) (k := 1) (by omega)).mp e)]
theorem in_T {v hi : Nat} (h : v ≤ hi ∧ hi < 2 ^ 30) : f_X12_in (nI v) (nI 0) (nI hi) = some (nI 1) := in_c (by omega)
theorem in_F {v hi : Nat} (h : hi < v ∧ v < 2 ^ 30) : f_X12_in (nI v) (nI 0) (nI hi) = some (nI 0) := in_hi (nI_lt (by omega) (by omega))
/-- a sign that begins no number -/
theorem sg_dn {a a' : Nat} {c : Int32} (h : SG n t u a a' c) (q : ∀ b, c = nI b → b < 48 ∨ 57 < b) : f_X12_isDigit c = some (nI 0) := by
  rcases h.2.2.2.2.2.2 with ⟨e, _⟩ | ⟨b, b0, b1, b2, e, _⟩
  · rw [e]; exact isDigit_m
  · rw [e]; exact isDigit_n b1 (q b e)
theorem num2 (hn : n ≤ 240) (h : RT n t u) {a hi : Nat} (ha : a ≤ n) (hh : hi ≤ 99) : ∃ a', a ≤ a' ∧ a' ≤ n ∧ ((f_X10_number (nI n) t (nI a) (nI 2) = some (mI 1, nI a') ∧ ∃ v, f_X12_number (nI n) u (nI a) (mI 1) (nI 0) (nI hi) = some (v, nI a', nI a')) ∨ ∃ v, v ≤ 99 ∧ 0 < a' ∧ f_X10_number (nI n) t (nI a) (nI 2) = some (nI v, nI a') ∧ (v ≤ hi → f_X12_number (nI n) u (nI a) (mI 1) (nI 0) (nI hi) = some (nI v, nI a', mI 1)) ∧ (hi < v → ∃ w, f_X12_number (nI n) u (nI a) (mI 1) (nI 0) (nI hi) = some (w, nI (a' - 1), nI (a' - 1)))) := by
  obtain ⟨k, ef⟩ : ∃ k, fu = k + 1 + 1 + 1 := ⟨fu - 3, by have := fu_le; omega⟩
  obtain ⟨a1, c, hs⟩ := sg_c hn h ha
  obtain ⟨s1, s2, s3, s4, s5, s6, s7⟩ := hs
  rcases s7 with ⟨ec, en⟩ | ⟨b, b0, b1, b2, ec, hb, et, eu⟩
  · subst ec
    refine ⟨a1, s1, s2, Or.inl ⟨?_, nI 0, ?_⟩⟩
    · simp (disch := omega) only [f_X10_number, b_X10_number_0, s3, neg_nI, lit_nI, nI_add, pk_mul, pk_sub, nI_clamp, inB_nI, gd_true, bnd_def, nI_leI, nI_ltI, nI_eq, nI_mI, mI_nI, nle_T, nle_F, nlt_T, nlt_F, neq_T, neq_F, ↓reduceIte, Nat.add_zero, Nat.zero_add, Nat.mul_zero, Nat.reduceAdd, Nat.reduceMul, Nat.reduceSub, ob1_e, ob2_e, ob3_e, ob4_e, ob6_e]
    · simp (disch := omega) only [f_X12_number, b_X12_number_0, s4, isDigit_m, bad_n, neg_nI, lit_nI, nI_add, pk_mul, pk_sub, nI_clamp, inB_nI, gd_true, bnd_def, nI_leI, nI_ltI, nI_eq, nI_mI, mI_nI, nle_T, nle_F, nlt_T, nlt_F, neq_T, neq_F, ↓reduceIte, Nat.add_zero, Nat.zero_add, Nat.mul_zero, Nat.reduceAdd, Nat.reduceMul, Nat.reduceSub, ob1_e, ob2_e, ob3_e, ob4_e, ob6_e]
  subst ec
  have hm : (nI b = mI 1) = False := nI_mI (by omega)
  rcases dg_c hn h (a := a1) s2 with ⟨d, d1, d2, d3, d4, d5, d6⟩ | ⟨d4, c5, d5, d6⟩
  · have ebd : nI b = nI (48 + d) := by rw [← et, d3]
    rw [ebd] at s4 s3 hm
    rcases dg_c hn h (a := a1 + 1) (by omega) with ⟨e, e1, e2, e3, e4, e5, e6⟩ | ⟨e4, c5, e5, e6⟩
    · rcases dg_c hn h (a := a1 + 1 + 1) (by omega) with ⟨g, g1, g2, g3, g4, g5, g6⟩ | ⟨g4, c7, g5, g6⟩
      · refine ⟨a1 + 1 + 1, by omega, by omega, Or.inl ⟨?_, nI (10 * d + e), ?_⟩⟩
        · simp (disch := omega) only [f_X10_number, b_X10_number_0, s3, hm, ef, f_X10_number_14, b_X10_number_14, d3, d4, e3, e4, g4, m10, s48, Nat.zero_mul, Nat.mul_zero, Nat.add_sub_cancel_left, b_X10_number_60, b_X10_number_71, neg_nI, lit_nI, nI_add, pk_mul, pk_sub, nI_clamp, inB_nI, gd_true, bnd_def, nI_leI, nI_ltI, nI_eq, nI_mI, mI_nI, nle_T, nle_F, nlt_T, nlt_F, neq_T, neq_F, ↓reduceIte, Nat.add_zero, Nat.zero_add, Nat.mul_zero, Nat.reduceAdd, Nat.reduceMul, Nat.reduceSub, ob1_e, ob2_e, ob3_e, ob4_e, ob6_e]
        · simp (disch := omega) only [f_X12_number, b_X12_number_0, b_X12_number_67, s4, d5, d6, e5, e6, g5, g6, s48, Nat.add_sub_cancel_left, bad_n, neg_nI, lit_nI, nI_add, pk_mul, pk_sub, nI_clamp, inB_nI, gd_true, bnd_def, nI_leI, nI_ltI, nI_eq, nI_mI, mI_nI, nle_T, nle_F, nlt_T, nlt_F, neq_T, neq_F, ↓reduceIte, Nat.add_zero, Nat.zero_add, Nat.mul_zero, Nat.reduceAdd, Nat.reduceMul, Nat.reduceSub, ob1_e, ob2_e, ob3_e, ob4_e, ob6_e]
      · refine ⟨a1 + 1 + 1, by omega, by omega, Or.inr ⟨10 * d + e, by omega, by omega, ?_, fun q => ?_, fun q => ⟨nI (10 * d + e), ?_⟩⟩⟩
        · simp (disch := omega) only [f_X10_number, b_X10_number_0, s3, hm, ef, f_X10_number_14, b_X10_number_14, d3, d4, e3, e4, g4, m10, s48, Nat.zero_mul, Nat.mul_zero, Nat.add_sub_cancel_left, b_X10_number_60, b_X10_number_71, neg_nI, lit_nI, nI_add, pk_mul, pk_sub, nI_clamp, inB_nI, gd_true, bnd_def, nI_leI, nI_ltI, nI_eq, nI_mI, mI_nI, nle_T, nle_F, nlt_T, nlt_F, neq_T, neq_F, ↓reduceIte, Nat.add_zero, Nat.zero_add, Nat.mul_zero, Nat.reduceAdd, Nat.reduceMul, Nat.reduceSub, ob1_e, ob2_e, ob3_e, ob4_e, ob6_e]
        · simp (disch := omega) only [f_X12_number, b_X12_number_0, b_X12_number_67, s4, d5, d6, e5, e6, g5, g6, s48, Nat.add_sub_cancel_left, bad_n, in_T, neg_nI, lit_nI, nI_add, pk_mul, pk_sub, nI_clamp, inB_nI, gd_true, bnd_def, nI_leI, nI_ltI, nI_eq, nI_mI, mI_nI, nle_T, nle_F, nlt_T, nlt_F, neq_T, neq_F, ↓reduceIte, Nat.add_zero, Nat.zero_add, Nat.mul_zero, Nat.reduceAdd, Nat.reduceMul, Nat.reduceSub, ob1_e, ob2_e, ob3_e, ob4_e, ob6_e]
        · simp (disch := omega) only [f_X12_number, b_X12_number_0, b_X12_number_67, s4, d5, d6, e5, e6, g5, g6, s48, Nat.add_sub_cancel_left, bad_n, in_F, neg_nI, lit_nI, nI_add, pk_mul, pk_sub, nI_clamp, inB_nI, gd_true, bnd_def, nI_leI, nI_ltI, nI_eq, nI_mI, mI_nI, nle_T, nle_F, nlt_T, nlt_F, neq_T, neq_F, ↓reduceIte, Nat.add_zero, Nat.zero_add, Nat.mul_zero, Nat.reduceAdd, Nat.reduceMul, Nat.reduceSub, ob1_e, ob2_e, ob3_e, ob4_e, ob6_e]
    · refine ⟨a1 + 1, by omega, by omega, Or.inr ⟨d, by omega, by omega, ?_, fun q => ?_, fun q => ⟨nI d, ?_⟩⟩⟩
      · simp (disch := omega) only [f_X10_number, b_X10_number_0, s3, hm, ef, f_X10_number_14, b_X10_number_14, d3, d4, e4, m10, s48, Nat.zero_mul, Nat.mul_zero, Nat.add_sub_cancel_left, b_X10_number_60, b_X10_number_71, neg_nI, lit_nI, nI_add, pk_mul, pk_sub, nI_clamp, inB_nI, gd_true, bnd_def, nI_leI, nI_ltI, nI_eq, nI_mI, mI_nI, nle_T, nle_F, nlt_T, nlt_F, neq_T, neq_F, ↓reduceIte, Nat.add_zero, Nat.zero_add, Nat.mul_zero, Nat.reduceAdd, Nat.reduceMul, Nat.reduceSub, ob1_e, ob2_e, ob3_e, ob4_e, ob6_e]
      · simp (disch := omega) only [f_X12_number, b_X12_number_0, b_X12_number_67, s4, d5, d6, e5, e6, s48, Nat.add_sub_cancel_left, bad_n, in_T, neg_nI, lit_nI, nI_add, pk_mul, pk_sub, nI_clamp, inB_nI, gd_true, bnd_def, nI_leI, nI_ltI, nI_eq, nI_mI, mI_nI, nle_T, nle_F, nlt_T, nlt_F, neq_T, neq_F, ↓reduceIte, Nat.add_zero, Nat.zero_add, Nat.mul_zero, Nat.reduceAdd, Nat.reduceMul, Nat.reduceSub, ob1_e, ob2_e, ob3_e, ob4_e, ob6_e]
      · simp (disch := omega) only [f_X12_number, b_X12_number_0, b_X12_number_67, s4, d5, d6, e5, e6, s48, Nat.add_sub_cancel_left, bad_n, in_F, neg_nI, lit_nI, nI_add, pk_mul, pk_sub, nI_clamp, inB_nI, gd_true, bnd_def, nI_leI, nI_ltI, nI_eq, nI_mI, mI_nI, nle_T, nle_F, nlt_T, nlt_F, neq_T, neq_F, ↓reduceIte, Nat.add_zero, Nat.zero_add, Nat.mul_zero, Nat.reduceAdd, Nat.reduceMul, Nat.reduceSub, ob1_e, ob2_e, ob3_e, ob4_e, ob6_e]
  · have ec : c5 = nI b := by
      have := here_in (u := u) (n := n) (a := a1) ⟨hb, hn⟩
      rw [d5, eu] at this
      exact Option.some.inj this
    rw [ec] at d6
    refine ⟨a1, s1, s2, Or.inl ⟨?_, nI 0, ?_⟩⟩
    · simp (disch := omega) only [f_X10_number, b_X10_number_0, s3, hm, ef, f_X10_number_14, b_X10_number_14, d4, b_X10_number_60, b_X10_number_71, neg_nI, lit_nI, nI_add, pk_mul, pk_sub, nI_clamp, inB_nI, gd_true, bnd_def, nI_leI, nI_ltI, nI_eq, nI_mI, mI_nI, nle_T, nle_F, nlt_T, nlt_F, neq_T, neq_F, ↓reduceIte, Nat.add_zero, Nat.zero_add, Nat.mul_zero, Nat.reduceAdd, Nat.reduceMul, Nat.reduceSub, ob1_e, ob2_e, ob3_e, ob4_e, ob6_e]
    · simp (disch := omega) only [f_X12_number, b_X12_number_0, s4, d6, bad_n, neg_nI, lit_nI, nI_add, pk_mul, pk_sub, nI_clamp, inB_nI, gd_true, bnd_def, nI_leI, nI_ltI, nI_eq, nI_mI, mI_nI, nle_T, nle_F, nlt_T, nlt_F, neq_T, neq_F, ↓reduceIte, Nat.add_zero, Nat.zero_add, Nat.mul_zero, Nat.reduceAdd, Nat.reduceMul, Nat.reduceSub, ob1_e, ob2_e, ob3_e, ob4_e, ob6_e]
end TP
