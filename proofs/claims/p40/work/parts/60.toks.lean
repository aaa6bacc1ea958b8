section
/-! the tokens of a law -/
abbrev Tok : Type := Nat × Nat
def cs (x : Tok) : Int32 := if x.1 = 0 then nI x.2 else if x.1 = 1 then mI (14 + x.2) else if x.1 ≤ 8 then mI x.1 else if x.1 = 9 then mI 11 else mI (x.1 - 1)
def tc (x : Tok) : Int32 := nI x.1
def tv (x : Tok) : Int32 := nI x.2
/-- tokens behind a place -/
def ap (f : Tok → Int32) (r : Nat → Int32) (o : Nat) : List Tok → (Nat → Int32)
  | [] => r
  | x :: l => ap f (upd r o (f x)) (o + 1) l
theorem ap_app (f : Tok → Int32) : ∀ (A B : List Tok) (r : Nat → Int32) (o : Nat), ap f (ap f r o A) (o + A.length) B = ap f r o (A ++ B)
  | [], B, r, o => rfl
  | x :: A, B, r, o => by
    show ap f (ap f (upd r o (f x)) (o + 1) A) (o + (A.length + 1)) B = ap f (upd r o (f x)) (o + 1) (A ++ B)
    rw [← ap_app f A B (upd r o (f x)) (o + 1), show o + (A.length + 1) = o + 1 + A.length by omega]
theorem ap_1 (f : Tok → Int32) (r : Nat → Int32) (o : Nat) (x : Tok) : ap f r o [x] = upd r o (f x) := rfl
theorem ap_out (f : Tok → Int32) {i : Nat} : ∀ (L : List Tok) (r : Nat → Int32) (o : Nat), (i < o ∨ o + L.length ≤ i) → ap f r o L i = r i
  | [], r, o, _ => rfl
  | x :: L, r, o, h => by
    replace h : i < o ∨ o + (L.length + 1) ≤ i := h
    show ap f (upd r o (f x)) (o + 1) L i = r i
    rw [ap_out f L _ _ (by omega), upd_n (by omega)]
theorem ap_in (f : Tok → Int32) : ∀ (L : List Tok) (r : Nat → Int32) (o i : Nat) (h : i < L.length), ap f r o L (o + i) = f L[i]
  | x :: L, r, o, 0, _ => by
    show ap f (upd r o (f x)) (o + 1) L o = f x
    rw [ap_out f L _ _ (by omega), upd_y rfl]
  | x :: L, r, o, i + 1, h => by
    have h' : i < L.length := Nat.lt_of_succ_lt_succ h
    show ap f (upd r o (f x)) (o + 1) L (o + (i + 1)) = f L[i]
    rw [show o + (i + 1) = o + 1 + i by omega, ap_in f L _ _ i h']
theorem upd_upd {f : Nat → Int32} {k : Nat} {x y : Int32} : upd (upd f k x) k y = upd f k y := by
  funext i
  by_cases e : i = k
  · rw [upd_y e, upd_y e]
  · rw [upd_n e, upd_n e, upd_n e]
theorem upd_same {f : Nat → Int32} {k : Nat} {x : Int32} (h : f k = x) : upd f k x = f := by
  funext i
  by_cases e : i = k
  · rw [upd_y e, e, h]
  · rw [upd_n e]
/-- a row of tokens that leaves one number on a stack, by at most h places -/
def Ex (L : List Tok) (h : Nat) : Prop := ∀ P : List Tok → Nat → Prop, (∀ v, v ≤ 9999 → P [(0, v)] 1) → (∀ l, l < 6 → P [(1, l)] 1) → (∀ k A B x y, 2 ≤ k ∧ k ≤ 11 ∧ k ≠ 9 → P A x → P B y → P (A ++ (B ++ [(k, 0)])) (max x (y + 1))) → (∀ A x, P A x → P (A ++ [(9, 0)]) x) → P L h
theorem Ex.num {v : Nat} (h : v ≤ 9999) : Ex [(0, v)] 1 := fun _ h1 _ _ _ => h1 v h
theorem Ex.ltr {l : Nat} (h : l < 6) : Ex [(1, l)] 1 := fun _ _ h2 _ _ => h2 l h
theorem Ex.bin {k x y : Nat} {A B : List Tok} (h : 2 ≤ k ∧ k ≤ 11 ∧ k ≠ 9) (hA : Ex A x) (hB : Ex B y) : Ex (A ++ (B ++ [(k, 0)])) (max x (y + 1)) := fun P h1 h2 h3 h4 => h3 k A B x y h (hA P h1 h2 h3 h4) (hB P h1 h2 h3 h4)
theorem Ex.nt {x : Nat} {A : List Tok} (hA : Ex A x) : Ex (A ++ [(9, 0)]) x := fun P h1 h2 h3 h4 => h4 A x (hA P h1 h2 h3 h4)
theorem Ex.pos {L : List Tok} {h : Nat} (e : Ex L h) : 0 < h := e (fun _ h => 0 < h) (fun _ _ => by omega) (fun _ _ => by omega) (fun _ _ _ _ _ _ _ _ => by omega) (fun _ _ h => h)
abbrev XT : Type := Int32 × Int32 × Int32 × (Nat → Int32)
abbrev YT : Type := Int32 × Int32 × Int32 × (Nat → Int32) × (Nat → Int32) × (Nat → Int32)
def BADL (n tx B : Nat) (code value codes : Nat → Int32) (x : Option XT) (y : Option YT) : Prop := ∃ (a c : Nat) (s2 : Int32) (lc2 : Nat → Int32) (p q : Int32) (code2 value2 codes2 : Nat → Int32), a ≤ n ∧ x = some (nI 0, nI a, s2, lc2) ∧ y = some (p, nI a, q, code2, value2, codes2) ∧ codes2 tx = nI c ∧ c ≤ B ∧ (∀ i, (i < 520 * tx ∨ 520 * tx + 520 ≤ i) → code2 i = code i ∧ value2 i = value i) ∧ ∀ i, i ≠ tx → codes2 i = codes i
def GOODL (n tx dp s s' a hh : Nat) (lc code value codes : Nat → Int32) (L : List Tok) (x : Option XT) (y : Option YT) : Prop := ∃ a' h, a < a' ∧ a' ≤ n ∧ a + L.length ≤ a' ∧ Ex L h ∧ h ≤ hh ∧ x = some (nI 1, nI a', nI (s + L.length), ap cs lc s L) ∧ y = some (nI a', mI 1, nI dp, ap tc code (520 * tx + s') L, ap tv value (520 * tx + s') L, upd codes tx (nI (s' + L.length)))
def OUTL (n tx dp s s' a hh B : Nat) (lc code value codes : Nat → Int32) (x : Option XT) (y : Option YT) : Prop := (∃ L, GOODL n tx dp s s' a hh lc code value codes L x y) ∨ BADL n tx B code value codes x y
section LW
variable {n : Nat} {t u llT : Nat → Int32}
theorem putX {s : Nat} {lc : Nat → Int32} {v : Int32} (h : s < 241) : f_X1_put (nI s) lc v = some (nI 1, nI (s + 1), upd lc s v) := by
  simp (disch := omega) only [f_X1_put, b_X1_put_0, neg_nI, lit_nI, nI_add, pk_mul, pk_sub, nI_clamp, inB_nI, gd_true, bnd_def, nI_leI, nI_ltI, nI_eq, nI_mI, mI_nI, nle_T, nle_F, nlt_T, nlt_F, neq_T, neq_F, ↓reduceIte, Nat.add_zero, Nat.zero_add, Nat.mul_zero, Nat.reduceAdd, Nat.reduceMul, Nat.reduceSub, ob1_e, ob2_e, ob3_e, ob4_e, ob6_e]
theorem putY {tx s : Nat} {code value codes : Nat → Int32} {k v : Int32} (ht : tx ≤ 4) (hs : s < 520) (e : codes tx = nI s) : f_X12_put (nI tx) code value codes k v = some (upd code (520 * tx + s) k, upd value (520 * tx + s) v, upd codes tx (nI (s + 1))) := by
  simp (disch := omega) only [f_X12_put, b_X12_put_0, e, neg_nI, lit_nI, nI_add, pk_mul, pk_sub, nI_clamp, inB_nI, gd_true, bnd_def, nI_leI, nI_ltI, nI_eq, nI_mI, mI_nI, nle_T, nle_F, nlt_T, nlt_F, neq_T, neq_F, ↓reduceIte, Nat.add_zero, Nat.zero_add, Nat.mul_zero, Nat.reduceAdd, Nat.reduceMul, Nat.reduceSub, ob1_e, ob2_e, ob3_e, ob4_e, ob6_e]
def LLl : List Nat := [102, 115, 119, 97, 112, 100]
def LT6 (llT : Nat → Int32) : Prop := ∀ i, i < 6 → llT i = nI (LLl.getD i 0)
theorem lt_no {c : Int32} {i : Nat} (k : Nat) (hi : i < 6) (h : llT i ≠ c) : f_X2_letter_2 llT (k + 1) c (nI i) = f_X2_letter_2 llT k c (nI (i + 1)) := by
  rw [show ∀ a b, f_X2_letter_2 llT (k + 1) a b = b_X2_letter_2 llT (f_X2_letter_2 llT k) a b from fun _ _ => rfl]
  simp (disch := omega) only [b_X2_letter_2, h, neg_nI, lit_nI, nI_add, pk_mul, pk_sub, nI_clamp, inB_nI, gd_true, bnd_def, nI_leI, nI_ltI, nI_eq, nI_mI, mI_nI, nle_T, nle_F, nlt_T, nlt_F, neq_T, neq_F, ↓reduceIte, Nat.add_zero, Nat.zero_add, Nat.mul_zero, Nat.reduceAdd, Nat.reduceMul, Nat.reduceSub, ob1_e, ob2_e, ob3_e, ob4_e, ob6_e]
theorem lt_yes {c : Int32} {i : Nat} (k : Nat) (hi : i < 6) (h : llT i = c) : f_X2_letter_2 llT (k + 1) c (nI i) = some (nI i) := by
  rw [show ∀ a b, f_X2_letter_2 llT (k + 1) a b = b_X2_letter_2 llT (f_X2_letter_2 llT k) a b from fun _ _ => rfl]
  simp (disch := omega) only [b_X2_letter_2, h, neg_nI, lit_nI, nI_add, pk_mul, pk_sub, nI_clamp, inB_nI, gd_true, bnd_def, nI_leI, nI_ltI, nI_eq, nI_mI, mI_nI, nle_T, nle_F, nlt_T, nlt_F, neq_T, neq_F, ↓reduceIte, Nat.add_zero, Nat.zero_add, Nat.mul_zero, Nat.reduceAdd, Nat.reduceMul, Nat.reduceSub, ob1_e, ob2_e, ob3_e, ob4_e, ob6_e]
theorem lt_end {c : Int32} (k : Nat) : f_X2_letter_2 llT (k + 1) c (nI 6) = some (mI 1) := by
  rw [show ∀ a b, f_X2_letter_2 llT (k + 1) a b = b_X2_letter_2 llT (f_X2_letter_2 llT k) a b from fun _ _ => rfl]
  simp (disch := omega) only [b_X2_letter_2, neg_nI, lit_nI, nI_add, pk_mul, pk_sub, nI_clamp, inB_nI, gd_true, bnd_def, nI_leI, nI_ltI, nI_eq, nI_mI, mI_nI, nle_T, nle_F, nlt_T, nlt_F, neq_T, neq_F, ↓reduceIte, Nat.add_zero, Nat.zero_add, Nat.mul_zero, Nat.reduceAdd, Nat.reduceMul, Nat.reduceSub, ob1_e, ob2_e, ob3_e, ob4_e, ob6_e]
theorem nI_ne {a b : Nat} (h : a ≠ b) (ha : a < 2 ^ 30) (hb : b < 2 ^ 30) : nI a ≠ nI b := fun e => h (nI_inj (by omega) (by omega) e)
theorem nI_nm {a : Nat} (ha : a < 2 ^ 30) : nI a ≠ mI 1 := fun e => (nI_mI (n := a) (k := 1) (by omega)).mp e
theorem lt_c (tb : LT6 llT) {b : Nat} (b1 : b ≤ 255) : ∃ r, f_X2_letter llT (nI b) = some r ∧ f_X12_letterOf (nI b) = some r ∧ ((r = mI 1 ∧ b ≠ 102 ∧ b ≠ 115 ∧ b ≠ 119 ∧ b ≠ 97 ∧ b ≠ 112 ∧ b ≠ 100) ∨ (97 ≤ b ∧ ∃ l, l < 6 ∧ r = nI l)) := by
  have p0 : llT 0 = nI 102 := tb 0 (by omega)
  have p1 : llT 1 = nI 115 := tb 1 (by omega)
  have p2 : llT 2 = nI 119 := tb 2 (by omega)
  have p3 : llT 3 = nI 97 := tb 3 (by omega)
  have p4 : llT 4 = nI 112 := tb 4 (by omega)
  have p5 : llT 5 = nI 100 := tb 5 (by omega)
  obtain ⟨k, ef⟩ : ∃ k, fu = k + 1 + 1 + 1 + 1 + 1 + 1 + 1 := ⟨fu - 7, by have := fu_le; omega⟩
  by_cases q0 : b = 102
  · refine ⟨nI 0, ?_, ?_, Or.inr ⟨by omega, 0, by decide, rfl⟩⟩
    · show f_X2_letter_2 llT fu (nI b) (nI 0) = _
      rw [ef, lt_yes _ (i := 0) (by omega) (by rw [p0, q0])]
    · subst q0
      simp (disch := omega) only [f_X12_letterOf, b_X12_letterOf_0, neg_nI, lit_nI, nI_add, pk_mul, pk_sub, nI_clamp, inB_nI, gd_true, bnd_def, nI_leI, nI_ltI, nI_eq, nI_mI, mI_nI, nle_T, nle_F, nlt_T, nlt_F, neq_T, neq_F, ↓reduceIte, Nat.add_zero, Nat.zero_add, Nat.mul_zero, Nat.reduceAdd, Nat.reduceMul, Nat.reduceSub, ob1_e, ob2_e, ob3_e, ob4_e, ob6_e]
  by_cases q1 : b = 115
  · refine ⟨nI 1, ?_, ?_, Or.inr ⟨by omega, 1, by decide, rfl⟩⟩
    · show f_X2_letter_2 llT fu (nI b) (nI 0) = _
      rw [ef, lt_no _ (i := 0) (by omega) (by rw [p0]; exact nI_ne (by omega) (by omega) (by omega)), lt_yes _ (i := 1) (by omega) (by rw [p1, q1])]
    · subst q1
      simp (disch := omega) only [f_X12_letterOf, b_X12_letterOf_0, neg_nI, lit_nI, nI_add, pk_mul, pk_sub, nI_clamp, inB_nI, gd_true, bnd_def, nI_leI, nI_ltI, nI_eq, nI_mI, mI_nI, nle_T, nle_F, nlt_T, nlt_F, neq_T, neq_F, ↓reduceIte, Nat.add_zero, Nat.zero_add, Nat.mul_zero, Nat.reduceAdd, Nat.reduceMul, Nat.reduceSub, ob1_e, ob2_e, ob3_e, ob4_e, ob6_e]
  by_cases q2 : b = 119
  · refine ⟨nI 2, ?_, ?_, Or.inr ⟨by omega, 2, by decide, rfl⟩⟩
    · show f_X2_letter_2 llT fu (nI b) (nI 0) = _
      rw [ef, lt_no _ (i := 0) (by omega) (by rw [p0]; exact nI_ne (by omega) (by omega) (by omega)), lt_no _ (i := 1) (by omega) (by rw [p1]; exact nI_ne (by omega) (by omega) (by omega)), lt_yes _ (i := 2) (by omega) (by rw [p2, q2])]
    · subst q2
      simp (disch := omega) only [f_X12_letterOf, b_X12_letterOf_0, neg_nI, lit_nI, nI_add, pk_mul, pk_sub, nI_clamp, inB_nI, gd_true, bnd_def, nI_leI, nI_ltI, nI_eq, nI_mI, mI_nI, nle_T, nle_F, nlt_T, nlt_F, neq_T, neq_F, ↓reduceIte, Nat.add_zero, Nat.zero_add, Nat.mul_zero, Nat.reduceAdd, Nat.reduceMul, Nat.reduceSub, ob1_e, ob2_e, ob3_e, ob4_e, ob6_e]
  by_cases q3 : b = 97
  · refine ⟨nI 3, ?_, ?_, Or.inr ⟨by omega, 3, by decide, rfl⟩⟩
    · show f_X2_letter_2 llT fu (nI b) (nI 0) = _
      rw [ef, lt_no _ (i := 0) (by omega) (by rw [p0]; exact nI_ne (by omega) (by omega) (by omega)), lt_no _ (i := 1) (by omega) (by rw [p1]; exact nI_ne (by omega) (by omega) (by omega)), lt_no _ (i := 2) (by omega) (by rw [p2]; exact nI_ne (by omega) (by omega) (by omega)), lt_yes _ (i := 3) (by omega) (by rw [p3, q3])]
    · subst q3
      simp (disch := omega) only [f_X12_letterOf, b_X12_letterOf_0, neg_nI, lit_nI, nI_add, pk_mul, pk_sub, nI_clamp, inB_nI, gd_true, bnd_def, nI_leI, nI_ltI, nI_eq, nI_mI, mI_nI, nle_T, nle_F, nlt_T, nlt_F, neq_T, neq_F, ↓reduceIte, Nat.add_zero, Nat.zero_add, Nat.mul_zero, Nat.reduceAdd, Nat.reduceMul, Nat.reduceSub, ob1_e, ob2_e, ob3_e, ob4_e, ob6_e]
  by_cases q4 : b = 112
  · refine ⟨nI 4, ?_, ?_, Or.inr ⟨by omega, 4, by decide, rfl⟩⟩
    · show f_X2_letter_2 llT fu (nI b) (nI 0) = _
      rw [ef, lt_no _ (i := 0) (by omega) (by rw [p0]; exact nI_ne (by omega) (by omega) (by omega)), lt_no _ (i := 1) (by omega) (by rw [p1]; exact nI_ne (by omega) (by omega) (by omega)), lt_no _ (i := 2) (by omega) (by rw [p2]; exact nI_ne (by omega) (by omega) (by omega)), lt_no _ (i := 3) (by omega) (by rw [p3]; exact nI_ne (by omega) (by omega) (by omega)), lt_yes _ (i := 4) (by omega) (by rw [p4, q4])]
    · subst q4
      simp (disch := omega) only [f_X12_letterOf, b_X12_letterOf_0, neg_nI, lit_nI, nI_add, pk_mul, pk_sub, nI_clamp, inB_nI, gd_true, bnd_def, nI_leI, nI_ltI, nI_eq, nI_mI, mI_nI, nle_T, nle_F, nlt_T, nlt_F, neq_T, neq_F, ↓reduceIte, Nat.add_zero, Nat.zero_add, Nat.mul_zero, Nat.reduceAdd, Nat.reduceMul, Nat.reduceSub, ob1_e, ob2_e, ob3_e, ob4_e, ob6_e]
  by_cases q5 : b = 100
  · refine ⟨nI 5, ?_, ?_, Or.inr ⟨by omega, 5, by decide, rfl⟩⟩
    · show f_X2_letter_2 llT fu (nI b) (nI 0) = _
      rw [ef, lt_no _ (i := 0) (by omega) (by rw [p0]; exact nI_ne (by omega) (by omega) (by omega)), lt_no _ (i := 1) (by omega) (by rw [p1]; exact nI_ne (by omega) (by omega) (by omega)), lt_no _ (i := 2) (by omega) (by rw [p2]; exact nI_ne (by omega) (by omega) (by omega)), lt_no _ (i := 3) (by omega) (by rw [p3]; exact nI_ne (by omega) (by omega) (by omega)), lt_no _ (i := 4) (by omega) (by rw [p4]; exact nI_ne (by omega) (by omega) (by omega)), lt_yes _ (i := 5) (by omega) (by rw [p5, q5])]
    · subst q5
      simp (disch := omega) only [f_X12_letterOf, b_X12_letterOf_0, neg_nI, lit_nI, nI_add, pk_mul, pk_sub, nI_clamp, inB_nI, gd_true, bnd_def, nI_leI, nI_ltI, nI_eq, nI_mI, mI_nI, nle_T, nle_F, nlt_T, nlt_F, neq_T, neq_F, ↓reduceIte, Nat.add_zero, Nat.zero_add, Nat.mul_zero, Nat.reduceAdd, Nat.reduceMul, Nat.reduceSub, ob1_e, ob2_e, ob3_e, ob4_e, ob6_e]
  refine ⟨mI 1, ?_, ?_, Or.inl ⟨rfl, q0, q1, q2, q3, q4, q5⟩⟩
  · show f_X2_letter_2 llT fu (nI b) (nI 0) = _
    rw [ef, lt_no _ (i := 0) (by omega) (by rw [p0]; exact nI_ne (by omega) (by omega) (by omega)), lt_no _ (i := 1) (by omega) (by rw [p1]; exact nI_ne (by omega) (by omega) (by omega)), lt_no _ (i := 2) (by omega) (by rw [p2]; exact nI_ne (by omega) (by omega) (by omega)), lt_no _ (i := 3) (by omega) (by rw [p3]; exact nI_ne (by omega) (by omega) (by omega)), lt_no _ (i := 4) (by omega) (by rw [p4]; exact nI_ne (by omega) (by omega) (by omega)), lt_no _ (i := 5) (by omega) (by rw [p5]; exact nI_ne (by omega) (by omega) (by omega)), lt_end]
  · simp (disch := omega) only [f_X12_letterOf, b_X12_letterOf_0, neg_nI, lit_nI, nI_add, pk_mul, pk_sub, nI_clamp, inB_nI, gd_true, bnd_def, nI_leI, nI_ltI, nI_eq, nI_mI, mI_nI, nle_T, nle_F, nlt_T, nlt_F, neq_T, neq_F, ↓reduceIte, Nat.add_zero, Nat.zero_add, Nat.mul_zero, Nat.reduceAdd, Nat.reduceMul, Nat.reduceSub, ob1_e, ob2_e, ob3_e, ob4_e, ob6_e]
theorem lt_m (tb : LT6 llT) : f_X2_letter llT (mI 1) = some (mI 1) ∧ f_X12_letterOf (mI 1) = some (mI 1) := by
  have p0 : llT 0 = nI 102 := tb 0 (by omega)
  have p1 : llT 1 = nI 115 := tb 1 (by omega)
  have p2 : llT 2 = nI 119 := tb 2 (by omega)
  have p3 : llT 3 = nI 97 := tb 3 (by omega)
  have p4 : llT 4 = nI 112 := tb 4 (by omega)
  have p5 : llT 5 = nI 100 := tb 5 (by omega)
  obtain ⟨k, ef⟩ : ∃ k, fu = k + 1 + 1 + 1 + 1 + 1 + 1 + 1 := ⟨fu - 7, by have := fu_le; omega⟩
  constructor
  · show f_X2_letter_2 llT fu (mI 1) (nI 0) = _
    rw [ef, lt_no _ (i := 0) (by omega) (by rw [p0]; exact nI_nm (by omega)), lt_no _ (i := 1) (by omega) (by rw [p1]; exact nI_nm (by omega)), lt_no _ (i := 2) (by omega) (by rw [p2]; exact nI_nm (by omega)), lt_no _ (i := 3) (by omega) (by rw [p3]; exact nI_nm (by omega)), lt_no _ (i := 4) (by omega) (by rw [p4]; exact nI_nm (by omega)), lt_no _ (i := 5) (by omega) (by rw [p5]; exact nI_nm (by omega)), lt_end]
  · simp (disch := omega) only [f_X12_letterOf, b_X12_letterOf_0, neg_nI, lit_nI, nI_add, pk_mul, pk_sub, nI_clamp, inB_nI, gd_true, bnd_def, nI_leI, nI_ltI, nI_eq, nI_mI, mI_nI, nle_T, nle_F, nlt_T, nlt_F, neq_T, neq_F, ↓reduceIte, Nat.add_zero, Nat.zero_add, Nat.mul_zero, Nat.reduceAdd, Nat.reduceMul, Nat.reduceSub, ob1_e, ob2_e, ob3_e, ob4_e, ob6_e]
/-- numbers of at most four digits -/
theorem num4_l (hn : n ≤ 240) (h : RT n t u) : ∀ (j k a v : Nat), k + j = 4 → 0 < k → a ≤ n → v < 10 ^ k → ∀ kx ky, j < kx → j < ky → ∃ a', a ≤ a' ∧ a' ≤ n ∧ ((∃ v', v' ≤ 9999 ∧ f_X10_number_14 (nI n) t kx (nI a) (nI 4) (nI v) (nI k) = some (nI v', nI a') ∧ f_X12_plainNumber_4 (nI n) u ky (nI a) (mI 1) (nI v) (nI k) = some (nI v', nI a', mI 1)) ∨ ∃ v', f_X10_number_14 (nI n) t kx (nI a) (nI 4) (nI v) (nI k) = some (mI 1, nI a') ∧ f_X12_plainNumber_4 (nI n) u ky (nI a) (mI 1) (nI v) (nI k) = some (v', nI a', nI a'))
  | 0, k, a, v, hk, hk0, ha, hv, kx + 1, ky + 1, _, _ => by
    obtain rfl : k = 4 := by omega
    have hv' : v < 10000 := hv
    rcases dg_c hn h ha with ⟨d, d1, d2, d3, d4, d5, d6⟩ | ⟨d4, c5, d5, d6⟩
    · refine ⟨a, by omega, ha, Or.inr ⟨nI v, ?_, ?_⟩⟩
      · simp (disch := omega) only [f_X10_number_14, b_X10_number_14, b_X10_number_60, b_X10_number_71, d4, neg_nI, lit_nI, nI_add, pk_mul, pk_sub, nI_clamp, inB_nI, gd_true, bnd_def, nI_leI, nI_ltI, nI_eq, nI_mI, mI_nI, nle_T, nle_F, nlt_T, nlt_F, neq_T, neq_F, ↓reduceIte, Nat.add_zero, Nat.zero_add, Nat.mul_zero, Nat.reduceAdd, Nat.reduceMul, Nat.reduceSub, ob1_e, ob2_e, ob3_e, ob4_e, ob6_e]
      · simp (disch := omega) only [f_X12_plainNumber_4, b_X12_plainNumber_4, b_X12_plainNumber_48, d5, d6, bad_n, neg_nI, lit_nI, nI_add, pk_mul, pk_sub, nI_clamp, inB_nI, gd_true, bnd_def, nI_leI, nI_ltI, nI_eq, nI_mI, mI_nI, nle_T, nle_F, nlt_T, nlt_F, neq_T, neq_F, ↓reduceIte, Nat.add_zero, Nat.zero_add, Nat.mul_zero, Nat.reduceAdd, Nat.reduceMul, Nat.reduceSub, ob1_e, ob2_e, ob3_e, ob4_e, ob6_e]
    · refine ⟨a, by omega, ha, Or.inl ⟨v, by omega, ?_, ?_⟩⟩
      · simp (disch := omega) only [f_X10_number_14, b_X10_number_14, b_X10_number_60, b_X10_number_71, d4, neg_nI, lit_nI, nI_add, pk_mul, pk_sub, nI_clamp, inB_nI, gd_true, bnd_def, nI_leI, nI_ltI, nI_eq, nI_mI, mI_nI, nle_T, nle_F, nlt_T, nlt_F, neq_T, neq_F, ↓reduceIte, Nat.add_zero, Nat.zero_add, Nat.mul_zero, Nat.reduceAdd, Nat.reduceMul, Nat.reduceSub, ob1_e, ob2_e, ob3_e, ob4_e, ob6_e]
      · simp (disch := omega) only [f_X12_plainNumber_4, b_X12_plainNumber_4, b_X12_plainNumber_48, d5, d6, bad_n, neg_nI, lit_nI, nI_add, pk_mul, pk_sub, nI_clamp, inB_nI, gd_true, bnd_def, nI_leI, nI_ltI, nI_eq, nI_mI, mI_nI, nle_T, nle_F, nlt_T, nlt_F, neq_T, neq_F, ↓reduceIte, Nat.add_zero, Nat.zero_add, Nat.mul_zero, Nat.reduceAdd, Nat.reduceMul, Nat.reduceSub, ob1_e, ob2_e, ob3_e, ob4_e, ob6_e]
  | j + 1, k, a, v, hk, hk0, ha, hv, kx + 1, ky + 1, hx, hy => by
    have hp : (10 : Nat) ^ k ≤ 10 ^ 3 := Nat.pow_le_pow_right (by omega) (by omega)
    have hv' : v < 1000 := Nat.lt_of_lt_of_le hv hp
    rcases dg_c hn h ha with ⟨d, d1, d2, d3, d4, d5, d6⟩ | ⟨d4, c5, d5, d6⟩
    · obtain ⟨a', h1, h2, h3⟩ := num4_l hn h j (k + 1) (a + 1) (10 * v + d) (by omega) (by omega) (by omega) (by rw [Nat.pow_succ]; omega) kx ky (by omega) (by omega)
      have ex : f_X10_number_14 (nI n) t (kx + 1) (nI a) (nI 4) (nI v) (nI k) = f_X10_number_14 (nI n) t kx (nI (a + 1)) (nI 4) (nI (10 * v + d)) (nI (k + 1)) := by
        rw [show ∀ a b c d, f_X10_number_14 (nI n) t (kx + 1) a b c d = b_X10_number_14 (nI n) t (f_X10_number_14 (nI n) t kx) a b c d from fun _ _ _ _ => rfl]
        simp (disch := omega) only [b_X10_number_14, d3, d4, m10, s48, neg_nI, lit_nI, nI_add, pk_mul, pk_sub, nI_clamp, inB_nI, gd_true, bnd_def, nI_leI, nI_ltI, nI_eq, nI_mI, mI_nI, nle_T, nle_F, nlt_T, nlt_F, neq_T, neq_F, ↓reduceIte, Nat.add_zero, Nat.zero_add, Nat.mul_zero, Nat.reduceAdd, Nat.reduceMul, Nat.reduceSub, ob1_e, ob2_e, ob3_e, ob4_e, ob6_e]
      have ey : f_X12_plainNumber_4 (nI n) u (ky + 1) (nI a) (mI 1) (nI v) (nI k) = f_X12_plainNumber_4 (nI n) u ky (nI (a + 1)) (mI 1) (nI (10 * v + d)) (nI (k + 1)) := by
        rw [show ∀ a b c d, f_X12_plainNumber_4 (nI n) u (ky + 1) a b c d = b_X12_plainNumber_4 (nI n) u (f_X12_plainNumber_4 (nI n) u ky) a b c d from fun _ _ _ _ => rfl]
        simp (disch := omega) only [b_X12_plainNumber_4, d5, d6, s48, neg_nI, lit_nI, nI_add, pk_mul, pk_sub, nI_clamp, inB_nI, gd_true, bnd_def, nI_leI, nI_ltI, nI_eq, nI_mI, mI_nI, nle_T, nle_F, nlt_T, nlt_F, neq_T, neq_F, ↓reduceIte, Nat.add_zero, Nat.zero_add, Nat.mul_zero, Nat.reduceAdd, Nat.reduceMul, Nat.reduceSub, ob1_e, ob2_e, ob3_e, ob4_e, ob6_e]
      rw [ex, ey]
      exact ⟨a', by omega, h2, h3⟩
    · refine ⟨a, by omega, ha, Or.inl ⟨v, by omega, ?_, ?_⟩⟩
      · simp (disch := omega) only [f_X10_number_14, b_X10_number_14, b_X10_number_60, b_X10_number_71, d4, neg_nI, lit_nI, nI_add, pk_mul, pk_sub, nI_clamp, inB_nI, gd_true, bnd_def, nI_leI, nI_ltI, nI_eq, nI_mI, mI_nI, nle_T, nle_F, nlt_T, nlt_F, neq_T, neq_F, ↓reduceIte, Nat.add_zero, Nat.zero_add, Nat.mul_zero, Nat.reduceAdd, Nat.reduceMul, Nat.reduceSub, ob1_e, ob2_e, ob3_e, ob4_e, ob6_e]
      · simp (disch := omega) only [f_X12_plainNumber_4, b_X12_plainNumber_4, b_X12_plainNumber_48, d5, d6, bad_n, neg_nI, lit_nI, nI_add, pk_mul, pk_sub, nI_clamp, inB_nI, gd_true, bnd_def, nI_leI, nI_ltI, nI_eq, nI_mI, mI_nI, nle_T, nle_F, nlt_T, nlt_F, neq_T, neq_F, ↓reduceIte, Nat.add_zero, Nat.zero_add, Nat.mul_zero, Nat.reduceAdd, Nat.reduceMul, Nat.reduceSub, ob1_e, ob2_e, ob3_e, ob4_e, ob6_e]
theorem num4 (hn : n ≤ 240) (h : RT n t u) {a1 d : Nat} (hs : f_X10_sign (nI n) t (nI a1) = some (nI (48 + d), nI a1)) (hd : DY n t u a1 d) : ∃ a', a1 < a' ∧ a' ≤ n ∧ ((∃ v', v' ≤ 9999 ∧ f_X10_number (nI n) t (nI a1) (nI 4) = some (nI v', nI a') ∧ f_X12_plainNumber (nI n) u (nI a1) (mI 1) = some (nI v', nI a', mI 1)) ∨ ∃ v', f_X10_number (nI n) t (nI a1) (nI 4) = some (mI 1, nI a') ∧ f_X12_plainNumber (nI n) u (nI a1) (mI 1) = some (v', nI a', nI a')) := by
  obtain ⟨d1, d2, d3, d4, d5, d6⟩ := hd
  have hf := fu_le
  obtain ⟨k, ef⟩ : ∃ k, fu = k + 1 := ⟨fu - 1, by omega⟩
  obtain ⟨a', h1, h2, h3⟩ := num4_l hn h 3 1 (a1 + 1) d (by omega) (by omega) (by omega) (by omega) k k (by omega) (by omega)
  have ex : f_X10_number (nI n) t (nI a1) (nI 4) = f_X10_number_14 (nI n) t k (nI (a1 + 1)) (nI 4) (nI d) (nI 1) := by
    have e : ∀ k, f_X10_number_14 (nI n) t (k + 1) (nI a1) (nI 4) (nI 0) (nI 0) = f_X10_number_14 (nI n) t k (nI (a1 + 1)) (nI 4) (nI d) (nI 1) := by
      intro k
      rw [show ∀ a b c d, f_X10_number_14 (nI n) t (k + 1) a b c d = b_X10_number_14 (nI n) t (f_X10_number_14 (nI n) t k) a b c d from fun _ _ _ _ => rfl]
      simp (disch := omega) only [b_X10_number_14, d3, d4, m10, s48, Nat.zero_mul, Nat.mul_zero, Nat.add_sub_cancel_left, neg_nI, lit_nI, nI_add, pk_mul, pk_sub, nI_clamp, inB_nI, gd_true, bnd_def, nI_leI, nI_ltI, nI_eq, nI_mI, mI_nI, nle_T, nle_F, nlt_T, nlt_F, neq_T, neq_F, ↓reduceIte, Nat.add_zero, Nat.zero_add, Nat.mul_zero, Nat.reduceAdd, Nat.reduceMul, Nat.reduceSub, ob1_e, ob2_e, ob3_e, ob4_e, ob6_e]
    rw [← e k, ← ef]
    simp (disch := omega) only [f_X10_number, b_X10_number_0, hs, neg_nI, lit_nI, nI_add, pk_mul, pk_sub, nI_clamp, inB_nI, gd_true, bnd_def, nI_leI, nI_ltI, nI_eq, nI_mI, mI_nI, nle_T, nle_F, nlt_T, nlt_F, neq_T, neq_F, ↓reduceIte, Nat.add_zero, Nat.zero_add, Nat.mul_zero, Nat.reduceAdd, Nat.reduceMul, Nat.reduceSub, ob1_e, ob2_e, ob3_e, ob4_e, ob6_e]
  have ey : f_X12_plainNumber (nI n) u (nI a1) (mI 1) = f_X12_plainNumber_4 (nI n) u k (nI (a1 + 1)) (mI 1) (nI d) (nI 1) := by
    have e : ∀ k, f_X12_plainNumber_4 (nI n) u (k + 1) (nI a1) (mI 1) (nI 0) (nI 0) = f_X12_plainNumber_4 (nI n) u k (nI (a1 + 1)) (mI 1) (nI d) (nI 1) := by
      intro k
      rw [show ∀ a b c d, f_X12_plainNumber_4 (nI n) u (k + 1) a b c d = b_X12_plainNumber_4 (nI n) u (f_X12_plainNumber_4 (nI n) u k) a b c d from fun _ _ _ _ => rfl]
      simp (disch := omega) only [b_X12_plainNumber_4, d5, d6, s48, Nat.mul_zero, Nat.add_sub_cancel_left, neg_nI, lit_nI, nI_add, pk_mul, pk_sub, nI_clamp, inB_nI, gd_true, bnd_def, nI_leI, nI_ltI, nI_eq, nI_mI, mI_nI, nle_T, nle_F, nlt_T, nlt_F, neq_T, neq_F, ↓reduceIte, Nat.add_zero, Nat.zero_add, Nat.mul_zero, Nat.reduceAdd, Nat.reduceMul, Nat.reduceSub, ob1_e, ob2_e, ob3_e, ob4_e, ob6_e]
    rw [← e k, ← ef]
    rfl
  rw [ex, ey]
  exact ⟨a', by omega, h2, h3⟩
end LW
end
section
/-! sums by both -/
theorem ap3 {f : Tok → Int32} {r : Nat → Int32} {o o1 o2 : Nat} {A B : List Tok} {x : Tok} {v : Int32} (h1 : o1 = o + A.length) (h2 : o2 = o + A.length + B.length) (hv : v = f x) : upd (ap f (ap f r o A) o1 B) o2 v = ap f r o (A ++ (B ++ [x])) := by
  subst h1 h2 hv
  rw [← ap_app, ← ap_app]
  rfl
theorem ap2 {f : Tok → Int32} {r : Nat → Int32} {o o1 : Nat} {A : List Tok} {x : Tok} {v : Int32} (h1 : o1 = o + A.length) (hv : v = f x) : upd (ap f r o A) o1 v = ap f r o (A ++ [x]) := by
  subst h1 hv
  rw [← ap_app]
  rfl
theorem len3 {A B : List Tok} {x : Tok} : (A ++ (B ++ [x])).length = A.length + B.length + 1 := by
  simp only [List.length_append, List.length_singleton]; omega
theorem len2 {A : List Tok} {x : Tok} : (A ++ [x]).length = A.length + 1 := by
  simp only [List.length_append, List.length_singleton]
abbrev FX : Type := Int32 → (Nat → Int32) → (Nat → Int32) → Int32 → Int32 → (Nat → Int32) → Int32 → Option XT
abbrev FY : Type := Int32 → Int32 → (Nat → Int32) → Int32 → Int32 → Int32 → (Nat → Int32) → (Nat → Int32) → (Nat → Int32) → Option YT
def OKF (n : Nat) (t u llT : Nat → Int32) (fx : FX) (fy : FY) (dp hh B : Nat) : Prop := ∀ (a s s' tx : Nat) (lc code value codes : Nat → Int32), a ≤ n → s ≤ a → s' ≤ a → tx ≤ 4 → codes tx = nI s' → OUTL n tx dp s s' a hh B lc code value codes (fx (nI n) t llT (nI a) (nI s) lc (nI dp)) (fy (nI n) (nI tx) u (nI a) (mI 1) (nI dp) code value codes)
section SU
variable {n : Nat} {t u llT : Nat → Int32} {FA FS FT : FX} {GA GS GT : FY}
theorem atom_o (hn : n ≤ 240) (h : RT n t u) (tb : LT6 llT) {dp : Nat} (hd : dp ≤ 6) (hS : dp < 6 → OKF n t u llT FS GS (dp + 1) (2 * (6 - dp) + 1) (240 + 10 * (6 - dp))) : OKF n t u llT (g_X1_readsAtom FA FS FT) (g_X12_atom GA GS GT) dp (2 * (6 - dp) + 1) (240 + 10 * (6 - dp)) := by
  intro a s s' tx lc code value codes ha hs hs' htx hc
  obtain ⟨a1, c, s1, s2, s3, s4, s5, s6, s7⟩ := sg_c hn h ha
  have hb0 : ∀ (hx : g_X1_readsAtom FA FS FT (nI n) t llT (nI a) (nI s) lc (nI dp) = some (nI 0, nI a1, nI s, lc)) (p q : Int32) (hy : g_X12_atom GA GS GT (nI n) (nI tx) u (nI a) (mI 1) (nI dp) code value codes = some (p, nI a1, q, code, value, codes)), OUTL n tx dp s s' a (2 * (6 - dp) + 1) (240 + 10 * (6 - dp)) lc code value codes (g_X1_readsAtom FA FS FT (nI n) t llT (nI a) (nI s) lc (nI dp)) (g_X12_atom GA GS GT (nI n) (nI tx) u (nI a) (mI 1) (nI dp) code value codes) := fun hx p q hy => Or.inr ⟨a1, s', nI s, lc, p, q, code, value, codes, s2, hx, hy, hc, by omega, fun _ _ => ⟨rfl, rfl⟩, fun _ _ => rfl⟩
  rcases s7 with ⟨ec, en⟩ | ⟨b, b0, b1, b2, ec, hb, et, eu⟩
  · subst ec
    refine hb0 ?_ (nI a1) (nI dp) ?_
    · simp (disch := omega) only [g_X1_readsAtom, b_X1_readsAtom_0, s3, (lt_m tb).1, f_X10_number, b_X10_number_0, s5, neg_nI, lit_nI, nI_add, pk_mul, pk_sub, nI_clamp, inB_nI, gd_true, bnd_def, nI_leI, nI_ltI, nI_eq, nI_mI, mI_nI, nle_T, nle_F, nlt_T, nlt_F, neq_T, neq_F, ↓reduceIte, Nat.add_zero, Nat.zero_add, Nat.mul_zero, Nat.reduceAdd, Nat.reduceMul, Nat.reduceSub, ob1_e, ob2_e, ob3_e, ob4_e, ob6_e]
    · simp (disch := omega) only [g_X12_atom, b_X12_atom_0, s4, (lt_m tb).2, isDigit_m, bad_n, neg_nI, lit_nI, nI_add, pk_mul, pk_sub, nI_clamp, inB_nI, gd_true, bnd_def, nI_leI, nI_ltI, nI_eq, nI_mI, mI_nI, nle_T, nle_F, nlt_T, nlt_F, neq_T, neq_F, ↓reduceIte, Nat.add_zero, Nat.zero_add, Nat.mul_zero, Nat.reduceAdd, Nat.reduceMul, Nat.reduceSub, ob1_e, ob2_e, ob3_e, ob4_e, ob6_e]
  subst ec
  obtain ⟨r, l1, l2, l3⟩ := lt_c tb b1
  by_cases q : b = 91
  · subst q
    obtain ⟨rfl, _⟩ : r = mI 1 ∧ True := by
      rcases l3 with ⟨e, _⟩ | ⟨e, _⟩
      · exact ⟨e, trivial⟩
      · omega
    have d6 : f_X12_isDigit (nI 91) = some (nI 0) := isDigit_n b1 (by omega)
    rcases Nat.lt_or_ge dp 6 with q6 | q6
    · rcases hS q6 (a1 + 1) s s' tx lc code value codes (by omega) (by omega) (by omega) htx hc with ⟨L, a2, hh, g1, g2, g3, g4, g5, g6, g7⟩ | ⟨a2, c2, x1, x2, p, q, code2, value2, codes2, g1, g2, g3, g4, g5, g6, g7⟩
      · obtain ⟨a3, c3, r1, r2, r3, r4, r5, r6, r7⟩ := sg_c hn h g2
        by_cases e93 : c3 = nI 93
        · subst e93
          have ha3 : a3 < n := by
            rcases r7 with ⟨e, _⟩ | ⟨_, _, _, _, _, e, _⟩
            · exact absurd e (nI_nm (by omega))
            · exact e
          refine Or.inl ⟨L, a3 + 1, hh, by omega, by omega, by omega, g4, g5, ?_, ?_⟩
          · simp (disch := omega) only [g_X1_readsAtom, b_X1_readsAtom_0, s3, g6, f_X10_take, b_X10_take_0, r3, neg_nI, lit_nI, nI_add, pk_mul, pk_sub, nI_clamp, inB_nI, gd_true, bnd_def, nI_leI, nI_ltI, nI_eq, nI_mI, mI_nI, nle_T, nle_F, nlt_T, nlt_F, neq_T, neq_F, ↓reduceIte, Nat.add_zero, Nat.zero_add, Nat.mul_zero, Nat.reduceAdd, Nat.reduceMul, Nat.reduceSub, ob1_e, ob2_e, ob3_e, ob4_e, ob6_e]
          · simp (disch := omega) only [g_X12_atom, b_X12_atom_0, s4, d6, l2, f_X12_opens, b_X12_opens_0, b_X12_opens_13, g7, f_X12_closes, b_X12_closes_0, b_X12_closes_20, r4, Nat.add_sub_cancel, ob3_e, neg_nI, lit_nI, nI_add, pk_mul, pk_sub, nI_clamp, inB_nI, gd_true, bnd_def, nI_leI, nI_ltI, nI_eq, nI_mI, mI_nI, nle_T, nle_F, nlt_T, nlt_F, neq_T, neq_F, ↓reduceIte, Nat.add_zero, Nat.zero_add, Nat.mul_zero, Nat.reduceAdd, Nat.reduceMul, Nat.reduceSub, ob1_e, ob2_e, ob3_e, ob4_e, ob6_e]
        · refine Or.inr ⟨a3, s' + L.length, nI (s + L.length), ap cs lc s L, nI (a3 + 1), nI dp, ap tc code (520 * tx + s') L, ap tv value (520 * tx + s') L, upd codes tx (nI (s' + L.length)), r2, ?_, ?_, upd_y rfl, by omega, fun i hi => ⟨ap_out _ _ _ _ (by omega), ap_out _ _ _ _ (by omega)⟩, fun i hi => upd_n hi⟩
          · simp (disch := omega) only [g_X1_readsAtom, b_X1_readsAtom_0, s3, g6, f_X10_take, b_X10_take_0, r3, e93, neg_nI, lit_nI, nI_add, pk_mul, pk_sub, nI_clamp, inB_nI, gd_true, bnd_def, nI_leI, nI_ltI, nI_eq, nI_mI, mI_nI, nle_T, nle_F, nlt_T, nlt_F, neq_T, neq_F, ↓reduceIte, Nat.add_zero, Nat.zero_add, Nat.mul_zero, Nat.reduceAdd, Nat.reduceMul, Nat.reduceSub, ob1_e, ob2_e, ob3_e, ob4_e, ob6_e]
          · simp (disch := omega) only [g_X12_atom, b_X12_atom_0, s4, d6, l2, f_X12_opens, b_X12_opens_0, b_X12_opens_13, g7, f_X12_closes, b_X12_closes_0, b_X12_closes_20, r4, e93, bad_n, Nat.add_sub_cancel, ob3_e, neg_nI, lit_nI, nI_add, pk_mul, pk_sub, nI_clamp, inB_nI, gd_true, bnd_def, nI_leI, nI_ltI, nI_eq, nI_mI, mI_nI, nle_T, nle_F, nlt_T, nlt_F, neq_T, neq_F, ↓reduceIte, Nat.add_zero, Nat.zero_add, Nat.mul_zero, Nat.reduceAdd, Nat.reduceMul, Nat.reduceSub, ob1_e, ob2_e, ob3_e, ob4_e, ob6_e]
      · refine Or.inr ⟨a2, c2, x1, x2, p + nI 1, q - nI 1, code2, value2, codes2, g1, ?_, ?_, g4, by omega, g6, g7⟩
        · simp (disch := omega) only [g_X1_readsAtom, b_X1_readsAtom_0, s3, g2, neg_nI, lit_nI, nI_add, pk_mul, pk_sub, nI_clamp, inB_nI, gd_true, bnd_def, nI_leI, nI_ltI, nI_eq, nI_mI, mI_nI, nle_T, nle_F, nlt_T, nlt_F, neq_T, neq_F, ↓reduceIte, Nat.add_zero, Nat.zero_add, Nat.mul_zero, Nat.reduceAdd, Nat.reduceMul, Nat.reduceSub, ob1_e, ob2_e, ob3_e, ob4_e, ob6_e]
        · simp (disch := omega) only [g_X12_atom, b_X12_atom_0, s4, d6, l2, f_X12_opens, b_X12_opens_0, b_X12_opens_13, g3, f_X12_closes, b_X12_closes_0, b_X12_closes_20, ob3_e, neg_nI, lit_nI, nI_add, pk_mul, pk_sub, nI_clamp, inB_nI, gd_true, bnd_def, nI_leI, nI_ltI, nI_eq, nI_mI, mI_nI, nle_T, nle_F, nlt_T, nlt_F, neq_T, neq_F, ↓reduceIte, Nat.add_zero, Nat.zero_add, Nat.mul_zero, Nat.reduceAdd, Nat.reduceMul, Nat.reduceSub, ob1_e, ob2_e, ob3_e, ob4_e, ob6_e]
    · obtain rfl : dp = 6 := by omega
      refine hb0 ?_ (nI (a1 + 1)) (nI 7) ?_
      · simp (disch := omega) only [g_X1_readsAtom, b_X1_readsAtom_0, s3, neg_nI, lit_nI, nI_add, pk_mul, pk_sub, nI_clamp, inB_nI, gd_true, bnd_def, nI_leI, nI_ltI, nI_eq, nI_mI, mI_nI, nle_T, nle_F, nlt_T, nlt_F, neq_T, neq_F, ↓reduceIte, Nat.add_zero, Nat.zero_add, Nat.mul_zero, Nat.reduceAdd, Nat.reduceMul, Nat.reduceSub, ob1_e, ob2_e, ob3_e, ob4_e, ob6_e]
      · simp (disch := omega) only [g_X12_atom, b_X12_atom_0, s4, d6, l2, f_X12_opens, b_X12_opens_0, b_X12_opens_13, bad_n, ob3_e, neg_nI, lit_nI, nI_add, pk_mul, pk_sub, nI_clamp, inB_nI, gd_true, bnd_def, nI_leI, nI_ltI, nI_eq, nI_mI, mI_nI, nle_T, nle_F, nlt_T, nlt_F, neq_T, neq_F, ↓reduceIte, Nat.add_zero, Nat.zero_add, Nat.mul_zero, Nat.reduceAdd, Nat.reduceMul, Nat.reduceSub, ob1_e, ob2_e, ob3_e, ob4_e, ob6_e]
  rcases l3 with ⟨er, nl⟩ | ⟨b97, l, hl, er⟩
  · subst er
    rcases dg_c hn h s2 with ⟨d, hd'⟩ | ⟨d4, c5, d5, d6⟩
    · obtain ⟨d1, d2, d3, d4, d5, d6⟩ := hd'
      have ebd : nI b = nI (48 + d) := by rw [← et, d3]
      obtain rfl : b = 48 + d := nI_inj (by omega) (by omega) ebd
      obtain ⟨a2, g1, g2, ⟨v, g3, g4, g5⟩ | ⟨v, g4, g5⟩⟩ := num4 hn h s5 ⟨d1, d2, d3, d4, d5, d6⟩
      · refine Or.inl ⟨[(0, v)], a2, 1, by omega, g2, by show a + 1 ≤ a2; omega, Ex.num g3, by omega, ?_, ?_⟩
        · simp (disch := omega) only [g_X1_readsAtom, b_X1_readsAtom_0, s3, l1, g4, putX, neg_nI, lit_nI, nI_add, pk_mul, pk_sub, nI_clamp, inB_nI, gd_true, bnd_def, nI_leI, nI_ltI, nI_eq, nI_mI, mI_nI, nle_T, nle_F, nlt_T, nlt_F, neq_T, neq_F, ↓reduceIte, Nat.add_zero, Nat.zero_add, Nat.mul_zero, Nat.reduceAdd, Nat.reduceMul, Nat.reduceSub, ob1_e, ob2_e, ob3_e, ob4_e, ob6_e]
          rfl
        · simp (disch := omega) only [g_X12_atom, b_X12_atom_0, s4, d6, g5, putY htx (show s' < 520 by omega) hc, ob3_e, neg_nI, lit_nI, nI_add, pk_mul, pk_sub, nI_clamp, inB_nI, gd_true, bnd_def, nI_leI, nI_ltI, nI_eq, nI_mI, mI_nI, nle_T, nle_F, nlt_T, nlt_F, neq_T, neq_F, ↓reduceIte, Nat.add_zero, Nat.zero_add, Nat.mul_zero, Nat.reduceAdd, Nat.reduceMul, Nat.reduceSub, ob1_e, ob2_e, ob3_e, ob4_e, ob6_e]
          rfl
      · refine Or.inr ⟨a2, s' + 1, nI s, lc, nI a2, nI dp, upd code (520 * tx + s') (nI 0), upd value (520 * tx + s') v, upd codes tx (nI (s' + 1)), g2, ?_, ?_, upd_y rfl, by omega, fun i hi => ⟨upd_n (by omega), upd_n (by omega)⟩, fun i hi => upd_n hi⟩
        · simp (disch := omega) only [g_X1_readsAtom, b_X1_readsAtom_0, s3, l1, g4, neg_nI, lit_nI, nI_add, pk_mul, pk_sub, nI_clamp, inB_nI, gd_true, bnd_def, nI_leI, nI_ltI, nI_eq, nI_mI, mI_nI, nle_T, nle_F, nlt_T, nlt_F, neq_T, neq_F, ↓reduceIte, Nat.add_zero, Nat.zero_add, Nat.mul_zero, Nat.reduceAdd, Nat.reduceMul, Nat.reduceSub, ob1_e, ob2_e, ob3_e, ob4_e, ob6_e]
        · simp (disch := omega) only [g_X12_atom, b_X12_atom_0, s4, d6, g5, putY htx (show s' < 520 by omega) hc, ob3_e, neg_nI, lit_nI, nI_add, pk_mul, pk_sub, nI_clamp, inB_nI, gd_true, bnd_def, nI_leI, nI_ltI, nI_eq, nI_mI, mI_nI, nle_T, nle_F, nlt_T, nlt_F, neq_T, neq_F, ↓reduceIte, Nat.add_zero, Nat.zero_add, Nat.mul_zero, Nat.reduceAdd, Nat.reduceMul, Nat.reduceSub, ob1_e, ob2_e, ob3_e, ob4_e, ob6_e]
    · have ec : c5 = nI b := by
        have := here_in (u := u) (n := n) (a := a1) ⟨hb, hn⟩
        rw [d5, eu] at this
        exact Option.some.inj this
      rw [ec] at d6
      have en : f_X10_number (nI n) t (nI a1) (nI 4) = some (mI 1, nI a1) := by
        obtain ⟨k, ef⟩ : ∃ k, fu = k + 1 := ⟨fu - 1, by have := fu_le; omega⟩
        simp (disch := omega) only [f_X10_number, b_X10_number_0, s5, ef, f_X10_number_14, b_X10_number_14, d4, b_X10_number_60, b_X10_number_71, neg_nI, lit_nI, nI_add, pk_mul, pk_sub, nI_clamp, inB_nI, gd_true, bnd_def, nI_leI, nI_ltI, nI_eq, nI_mI, mI_nI, nle_T, nle_F, nlt_T, nlt_F, neq_T, neq_F, ↓reduceIte, Nat.add_zero, Nat.zero_add, Nat.mul_zero, Nat.reduceAdd, Nat.reduceMul, Nat.reduceSub, ob1_e, ob2_e, ob3_e, ob4_e, ob6_e]
      refine hb0 ?_ (nI a1) (nI dp) ?_
      · simp (disch := omega) only [g_X1_readsAtom, b_X1_readsAtom_0, s3, l1, en, neg_nI, lit_nI, nI_add, pk_mul, pk_sub, nI_clamp, inB_nI, gd_true, bnd_def, nI_leI, nI_ltI, nI_eq, nI_mI, mI_nI, nle_T, nle_F, nlt_T, nlt_F, neq_T, neq_F, ↓reduceIte, Nat.add_zero, Nat.zero_add, Nat.mul_zero, Nat.reduceAdd, Nat.reduceMul, Nat.reduceSub, ob1_e, ob2_e, ob3_e, ob4_e, ob6_e]
      · simp (disch := omega) only [g_X12_atom, b_X12_atom_0, s4, d6, l2, bad_n, neg_nI, lit_nI, nI_add, pk_mul, pk_sub, nI_clamp, inB_nI, gd_true, bnd_def, nI_leI, nI_ltI, nI_eq, nI_mI, mI_nI, nle_T, nle_F, nlt_T, nlt_F, neq_T, neq_F, ↓reduceIte, Nat.add_zero, Nat.zero_add, Nat.mul_zero, Nat.reduceAdd, Nat.reduceMul, Nat.reduceSub, ob1_e, ob2_e, ob3_e, ob4_e, ob6_e]
  · subst er
    have d6 : f_X12_isDigit (nI b) = some (nI 0) := isDigit_n b1 (by omega)
    refine Or.inl ⟨[(1, l)], a1 + 1, 1, by omega, by omega, by show a + 1 ≤ a1 + 1; omega, Ex.ltr hl, by omega, ?_, ?_⟩
    · have e14 : (-14 : Int32) - nI l = cs (1, l) := by
        have : ∀ l, l < 6 → (-14 : Int32) - nI l = cs (1, l) := by decide
        exact this l hl
      have eu : g_X1_readsAtom FA FS FT (nI n) t llT (nI a) (nI s) lc (nI dp) = ob3 (f_X1_put (nI s) lc ((-14 : Int32) - nI l)) fun r_14 lr_size_15 lr_code_16 => gd (isZ r_14) <| some (r_14, nI (a1 + 1), lr_size_15, lr_code_16) := by
        simp (disch := omega) only [g_X1_readsAtom, b_X1_readsAtom_0, s3, l1, neg_nI, lit_nI, nI_add, pk_mul, pk_sub, nI_clamp, inB_nI, gd_true, bnd_def, nI_leI, nI_ltI, nI_eq, nI_mI, mI_nI, nle_T, nle_F, nlt_T, nlt_F, neq_T, neq_F, ↓reduceIte, Nat.add_zero, Nat.zero_add, Nat.mul_zero, Nat.reduceAdd, Nat.reduceMul, Nat.reduceSub, ob1_e, ob2_e, ob3_e, ob4_e, ob6_e]
      rw [eu, putX (by omega), ob3_e, isZ_1, gd_true, e14]
      rfl
    · simp (disch := omega) only [g_X12_atom, b_X12_atom_0, s4, d6, l2, putY htx (show s' < 520 by omega) hc, ob3_e, neg_nI, lit_nI, nI_add, pk_mul, pk_sub, nI_clamp, inB_nI, gd_true, bnd_def, nI_leI, nI_ltI, nI_eq, nI_mI, mI_nI, nle_T, nle_F, nlt_T, nlt_F, neq_T, neq_F, ↓reduceIte, Nat.add_zero, Nat.zero_add, Nat.mul_zero, Nat.reduceAdd, Nat.reduceMul, Nat.reduceSub, ob1_e, ob2_e, ob3_e, ob4_e, ob6_e]
      rfl
theorem sum_l (hn : n ≤ 240) (h : RT n t u) {dp h0 B0 a0 s s' tx : Nat} {lc code value codes : Nat → Int32} (hI : OKF n t u llT FT GT dp h0 B0) (hB : B0 ≤ 400) (hB2 : 240 ≤ B0) (hd : dp ≤ 6) (hs : s ≤ a0) (hs' : s' ≤ a0) (htx : tx ≤ 4) (hc : codes tx = nI s') : ∀ (j a a1 v2 : Nat) (c : Int32) (A : List Tok) (hA : Nat), n < a + j → a0 < a → a0 + A.length ≤ a → v2 < a → Ex A hA → hA ≤ h0 + 1 → SG n t u a a1 c → ∀ kx ky, j ≤ kx → j < ky → OUTL n tx dp s s' a0 (h0 + 1) (B0 + 1) lc code value codes (f_X1_readsSum_12 FA FS FT (nI n) t llT kx (nI a) (nI (s + A.length)) (ap cs lc s A) (nI dp) (nI v2)) (f_X12_sum_21 GA GS GT (nI n) (nI tx) u ky (nI a1) (mI 1) (nI dp) (ap tc code (520 * tx + s') A) (ap tv value (520 * tx + s') A) (upd codes tx (nI (s' + A.length))) c)
  | 0, a, a1, v2, c, A, hA, hj, h1, h2, h3, h4, h5, hsg, kx, ky, hkx, hky => by have := hsg.1; have := hsg.2.1; omega
  | j + 1, a, a1, v2, c, A, hA, hj, h1, h2, h3, h4, h5, hsg, kx, ky, hkx, hky => by
    obtain ⟨kx, rfl⟩ : ∃ k, kx = k + 1 := ⟨kx - 1, by omega⟩
    obtain ⟨ky, rfl⟩ : ∃ k, ky = k + 1 + 1 := ⟨ky - 2, by omega⟩
    obtain ⟨s1, s2, s3, s4, s5, s6, s7⟩ := hsg
    have ux : ∀ x1 x2 x3 x4 x5, f_X1_readsSum_12 FA FS FT (nI n) t llT (kx + 1) x1 x2 x3 x4 x5 = b_X1_readsSum_12 FA FS FT (nI n) t llT (f_X1_readsSum_12 FA FS FT (nI n) t llT kx) x1 x2 x3 x4 x5 := fun _ _ _ _ _ => rfl
    have uy : ∀ k x1 x2 x3 x4 x5 x6 x7, f_X12_sum_21 GA GS GT (nI n) (nI tx) u (k + 1) x1 x2 x3 x4 x5 x6 x7 = b_X12_sum_21 GA GS GT (nI n) (nI tx) u (f_X12_sum_21 GA GS GT (nI n) (nI tx) u k) x1 x2 x3 x4 x5 x6 x7 := fun _ _ _ _ _ _ _ _ => rfl
    rcases s7 with ⟨ec, en⟩ | ⟨b, b0, b1, b2, ec, hb, et, eu⟩
    · subst ec
      refine Or.inl ⟨A, a1, hA, by omega, s2, by omega, h4, h5, ?_, ?_⟩
      · rw [ux]; simp (disch := omega) only [b_X1_readsSum_12, s3, neg_nI, lit_nI, nI_add, pk_mul, pk_sub, nI_clamp, inB_nI, gd_true, bnd_def, nI_leI, nI_ltI, nI_eq, nI_mI, mI_nI, nle_T, nle_F, nlt_T, nlt_F, neq_T, neq_F, ↓reduceIte, Nat.add_zero, Nat.zero_add, Nat.mul_zero, Nat.reduceAdd, Nat.reduceMul, Nat.reduceSub, ob1_e, ob2_e, ob3_e, ob4_e, ob6_e]
      · rw [uy]; simp (disch := omega) only [b_X12_sum_21, neg_nI, lit_nI, nI_add, pk_mul, pk_sub, nI_clamp, inB_nI, gd_true, bnd_def, nI_leI, nI_ltI, nI_eq, nI_mI, mI_nI, nle_T, nle_F, nlt_T, nlt_F, neq_T, neq_F, ↓reduceIte, Nat.add_zero, Nat.zero_add, Nat.mul_zero, Nat.reduceAdd, Nat.reduceMul, Nat.reduceSub, ob1_e, ob2_e, ob3_e, ob4_e, ob6_e]
    subst ec
    have hgo : ∀ k, 2 ≤ k ∧ k ≤ 5 → ∀ vx : Int32, vx = cs (k, 0) → ∀ (X : Option XT) (Y : Option YT),
        (X = ob4 (FT (nI n) t llT (nI (a1 + 1)) (nI (s + A.length)) (ap cs lc s A) (nI dp)) fun r_2 at3 s4' c5 => if r_2 = nI 0 then some (nI 0, at3, s4', c5) else b_X1_readsSum_76 FA FS FT (nI n) t llT (f_X1_readsSum_12 FA FS FT (nI n) t llT kx) at3 s4' c5 (nI dp) (nI v2) vx) →
        (Y = ob6 (GT (nI n) (nI tx) u (nI (a1 + 1)) (mI 1) (nI dp) (ap tc code (520 * tx + s') A) (ap tv value (520 * tx + s') A) (upd codes tx (nI (s' + A.length)))) fun p w q c2 v3 cc => b_X12_sum_59 GA GS GT (nI n) (nI tx) u (f_X12_sum_21 GA GS GT (nI n) (nI tx) u (ky + 1)) p w q c2 v3 cc (nI k)) →
        OUTL n tx dp s s' a0 (h0 + 1) (B0 + 1) lc code value codes X Y := by
      intro k hk vx hvx X Y hX hY
      rcases hI (a1 + 1) (s + A.length) (s' + A.length) tx (ap cs lc s A) (ap tc code (520 * tx + s') A) (ap tv value (520 * tx + s') A) (upd codes tx (nI (s' + A.length))) (by omega) (by omega) (by omega) htx (upd_y rfl) with ⟨L, a2, hh, g1, g2, g3, g4, g5, g6, g7⟩ | ⟨a2, c2, x1, x2, p, q, code2, value2, codes2, g1, g2, g3, g4, g5, g6, g7⟩
      · obtain ⟨a3, c3, hs3⟩ := sg_c hn h g2
        have e2 := ap3 (f := cs) (r := lc) (o := s) (o1 := s + A.length) (o2 := s + A.length + L.length) (A := A) (B := L) (x := (k, 0)) rfl rfl hvx
        have e3 := ap3 (f := tc) (r := code) (o := 520 * tx + s') (o1 := 520 * tx + (s' + A.length)) (o2 := 520 * tx + (s' + A.length + L.length)) (A := A) (B := L) (x := (k, 0)) (v := nI k) (by omega) (by omega) rfl
        have e4 := ap3 (f := tv) (r := value) (o := 520 * tx + s') (o1 := 520 * tx + (s' + A.length)) (o2 := 520 * tx + (s' + A.length + L.length)) (A := A) (B := L) (x := (k, 0)) (v := nI 0) (by omega) (by omega) rfl
        have hl := len3 (A := A) (B := L) (x := (k, 0))
        have ih := sum_l (lc := lc) (code := code) (value := value) (codes := codes) hn h hI hB hB2 hd hs hs' htx hc j a2 a3 (v2 + 1) c3 (A ++ (L ++ [(k, 0)])) (max hA (hh + 1)) (by omega) (by omega) (by omega) (by omega) (Ex.bin (by omega) h4 g4) (by omega) hs3 kx (ky + 1) (by omega) (by omega)
        rw [hl] at ih
        have ex : X = f_X1_readsSum_12 FA FS FT (nI n) t llT kx (nI a2) (nI (s + (A.length + L.length + 1))) (ap cs lc s (A ++ (L ++ [(k, 0)]))) (nI dp) (nI (v2 + 1)) := by
          rw [hX, g6, ob4_e, if_neg (by decide)]
          unfold b_X1_readsSum_76
          rw [putX (by omega), ob3_e, if_neg (by decide), e2]
          simp only [bnd_def, lit_nI, nI_add]
          rw [show s + A.length + L.length + 1 = s + (A.length + L.length + 1) by omega]
        have ey : Y = f_X12_sum_21 GA GS GT (nI n) (nI tx) u (ky + 1) (nI a3) (mI 1) (nI dp) (ap tc code (520 * tx + s') (A ++ (L ++ [(k, 0)]))) (ap tv value (520 * tx + s') (A ++ (L ++ [(k, 0)]))) (upd codes tx (nI (s' + (A.length + L.length + 1)))) c3 := by
          rw [hY, g7, ob6_e]
          unfold b_X12_sum_59 b_X12_sum_79
          rw [lit_nI, putY htx (show s' + A.length + L.length < 520 by omega) (upd_y rfl), ob3_e, if_pos (show mI 1 = (-1 : Int32) from rfl), hs3.2.2.2.1, ob2_e, e3, e4, upd_upd, upd_upd, show s' + A.length + L.length + 1 = s' + (A.length + L.length + 1) by omega]
        rw [ex, ey]
        exact ih
      · refine Or.inr ⟨a2, c2 + 1, x1, x2, p, q, upd code2 (520 * tx + c2) (nI k), upd value2 (520 * tx + c2) (nI 0), upd codes2 tx (nI (c2 + 1)), g1, ?_, ?_, upd_y rfl, by omega, fun i hi => ?_, fun i hi => ?_⟩
        · rw [hX, g2, ob4_e, if_pos rfl]
        · rw [hY, g3, ob6_e]
          unfold b_X12_sum_59 b_X12_sum_79
          rw [lit_nI, putY htx (show c2 < 520 by omega) g4, ob3_e, if_neg (show ¬ nI a2 = (-1 : Int32) from nI_nm (by omega)), uy]
          simp (disch := omega) only [b_X12_sum_21, neg_nI, lit_nI, nI_add, pk_mul, pk_sub, nI_clamp, inB_nI, gd_true, bnd_def, nI_leI, nI_ltI, nI_eq, nI_mI, mI_nI, nle_T, nle_F, nlt_T, nlt_F, neq_T, neq_F, ↓reduceIte, Nat.add_zero, Nat.zero_add, Nat.mul_zero, Nat.reduceAdd, Nat.reduceMul, Nat.reduceSub, ob1_e, ob2_e, ob3_e, ob4_e, ob6_e]
        · obtain ⟨w1, w2⟩ := g6 i hi
          have w3 : (i < 520 * tx + s' ∨ 520 * tx + s' + A.length ≤ i) := by omega
          rw [upd_n (by omega), upd_n (by omega), w1, w2, ap_out _ _ _ _ w3, ap_out _ _ _ _ w3]
          exact ⟨rfl, rfl⟩
        · rw [upd_n hi, g7 i hi, upd_n hi]
    by_cases q1 : b = 43
    · subst q1
      refine hgo 2 (by omega) (mI 2) (by decide) _ _ ?_ ?_
      · rw [ux]; simp (disch := omega) only [b_X1_readsSum_12, b_X1_readsSum_41, s3, neg_nI, lit_nI, nI_add, pk_mul, pk_sub, nI_clamp, inB_nI, gd_true, bnd_def, nI_leI, nI_ltI, nI_eq, nI_mI, mI_nI, nle_T, nle_F, nlt_T, nlt_F, neq_T, neq_F, ↓reduceIte, Nat.add_zero, Nat.zero_add, Nat.mul_zero, Nat.reduceAdd, Nat.reduceMul, Nat.reduceSub, ob1_e, ob2_e, ob3_e, ob4_e, ob6_e]
      · rw [uy]; simp (disch := omega) only [b_X12_sum_21, b_X12_sum_33, neg_nI, lit_nI, nI_add, pk_mul, pk_sub, nI_clamp, inB_nI, gd_true, bnd_def, nI_leI, nI_ltI, nI_eq, nI_mI, mI_nI, nle_T, nle_F, nlt_T, nlt_F, neq_T, neq_F, ↓reduceIte, Nat.add_zero, Nat.zero_add, Nat.mul_zero, Nat.reduceAdd, Nat.reduceMul, Nat.reduceSub, ob1_e, ob2_e, ob3_e, ob4_e, ob6_e]
    by_cases q2 : b = 45
    · subst q2
      refine hgo 3 (by omega) (mI 3) (by decide) _ _ ?_ ?_
      · rw [ux]; simp (disch := omega) only [b_X1_readsSum_12, b_X1_readsSum_41, s3, neg_nI, lit_nI, nI_add, pk_mul, pk_sub, nI_clamp, inB_nI, gd_true, bnd_def, nI_leI, nI_ltI, nI_eq, nI_mI, mI_nI, nle_T, nle_F, nlt_T, nlt_F, neq_T, neq_F, ↓reduceIte, Nat.add_zero, Nat.zero_add, Nat.mul_zero, Nat.reduceAdd, Nat.reduceMul, Nat.reduceSub, ob1_e, ob2_e, ob3_e, ob4_e, ob6_e]
      · rw [uy]; simp (disch := omega) only [b_X12_sum_21, b_X12_sum_33, neg_nI, lit_nI, nI_add, pk_mul, pk_sub, nI_clamp, inB_nI, gd_true, bnd_def, nI_leI, nI_ltI, nI_eq, nI_mI, mI_nI, nle_T, nle_F, nlt_T, nlt_F, neq_T, neq_F, ↓reduceIte, Nat.add_zero, Nat.zero_add, Nat.mul_zero, Nat.reduceAdd, Nat.reduceMul, Nat.reduceSub, ob1_e, ob2_e, ob3_e, ob4_e, ob6_e]
    · refine Or.inl ⟨A, a1, hA, by omega, s2, by omega, h4, h5, ?_, ?_⟩
      · rw [ux]; simp (disch := omega) only [b_X1_readsSum_12, s3, neg_nI, lit_nI, nI_add, pk_mul, pk_sub, nI_clamp, inB_nI, gd_true, bnd_def, nI_leI, nI_ltI, nI_eq, nI_mI, mI_nI, nle_T, nle_F, nlt_T, nlt_F, neq_T, neq_F, ↓reduceIte, Nat.add_zero, Nat.zero_add, Nat.mul_zero, Nat.reduceAdd, Nat.reduceMul, Nat.reduceSub, ob1_e, ob2_e, ob3_e, ob4_e, ob6_e]
      · rw [uy]; simp (disch := omega) only [b_X12_sum_21, neg_nI, lit_nI, nI_add, pk_mul, pk_sub, nI_clamp, inB_nI, gd_true, bnd_def, nI_leI, nI_ltI, nI_eq, nI_mI, mI_nI, nle_T, nle_F, nlt_T, nlt_F, neq_T, neq_F, ↓reduceIte, Nat.add_zero, Nat.zero_add, Nat.mul_zero, Nat.reduceAdd, Nat.reduceMul, Nat.reduceSub, ob1_e, ob2_e, ob3_e, ob4_e, ob6_e]
theorem sum_o (hn : n ≤ 240) (h : RT n t u) {dp h0 B0 : Nat} (hI : OKF n t u llT FT GT dp h0 B0) (hB : B0 ≤ 400) (hB2 : 240 ≤ B0) (hd : dp ≤ 6) : OKF n t u llT (g_X1_readsSum FA FS FT) (g_X12_sum GA GS GT) dp (h0 + 1) (B0 + 1) := by
  intro a s s' tx lc code value codes ha hs hs' htx hc
  have hf := fu_le
  rcases hI a s s' tx lc code value codes ha hs hs' htx hc with ⟨L, a2, hh, g1, g2, g3, g4, g5, g6, g7⟩ | ⟨a2, c2, x1, x2, p, q, code2, value2, codes2, g1, g2, g3, g4, g5, g6, g7⟩
  · obtain ⟨a3, c3, hs3⟩ := sg_c hn h g2
    have := sum_l (FA := FA) (FS := FS) (GA := GA) (GS := GS) (FT := FT) (GT := GT) (lc := lc) (code := code) (value := value) (codes := codes) hn h hI hB hB2 hd hs hs' htx hc (n + 1) a2 a3 0 c3 L hh (by omega) g1 g3 (by omega) g4 (by omega) hs3 fu fu (by omega) (by omega)
    have ex : g_X1_readsSum FA FS FT (nI n) t llT (nI a) (nI s) lc (nI dp) = f_X1_readsSum_12 FA FS FT (nI n) t llT fu (nI a2) (nI (s + L.length)) (ap cs lc s L) (nI dp) (nI 0) := by
      simp (disch := omega) only [g_X1_readsSum, b_X1_readsSum_0, g6, neg_nI, lit_nI, nI_add, pk_mul, pk_sub, nI_clamp, inB_nI, gd_true, bnd_def, nI_leI, nI_ltI, nI_eq, nI_mI, mI_nI, nle_T, nle_F, nlt_T, nlt_F, neq_T, neq_F, ↓reduceIte, Nat.add_zero, Nat.zero_add, Nat.mul_zero, Nat.reduceAdd, Nat.reduceMul, Nat.reduceSub, ob1_e, ob2_e, ob3_e, ob4_e, ob6_e]
    have ey : g_X12_sum GA GS GT (nI n) (nI tx) u (nI a) (mI 1) (nI dp) code value codes = f_X12_sum_21 GA GS GT (nI n) (nI tx) u fu (nI a3) (mI 1) (nI dp) (ap tc code (520 * tx + s') L) (ap tv value (520 * tx + s') L) (upd codes tx (nI (s' + L.length))) c3 := by
      simp (disch := omega) only [g_X12_sum, b_X12_sum_0, b_X12_sum_20, g7, hs3.2.2.2.1, neg_nI, lit_nI, nI_add, pk_mul, pk_sub, nI_clamp, inB_nI, gd_true, bnd_def, nI_leI, nI_ltI, nI_eq, nI_mI, mI_nI, nle_T, nle_F, nlt_T, nlt_F, neq_T, neq_F, ↓reduceIte, Nat.add_zero, Nat.zero_add, Nat.mul_zero, Nat.reduceAdd, Nat.reduceMul, Nat.reduceSub, ob1_e, ob2_e, ob3_e, ob4_e, ob6_e]
    rw [ex, ey]
    exact this
  · obtain ⟨k, ef⟩ : ∃ k, fu = k + 1 := ⟨fu - 1, by omega⟩
    refine Or.inr ⟨a2, c2, x1, x2, p, q, code2, value2, codes2, g1, ?_, ?_, g4, by omega, g6, g7⟩
    · simp (disch := omega) only [g_X1_readsSum, b_X1_readsSum_0, g2, neg_nI, lit_nI, nI_add, pk_mul, pk_sub, nI_clamp, inB_nI, gd_true, bnd_def, nI_leI, nI_ltI, nI_eq, nI_mI, mI_nI, nle_T, nle_F, nlt_T, nlt_F, neq_T, neq_F, ↓reduceIte, Nat.add_zero, Nat.zero_add, Nat.mul_zero, Nat.reduceAdd, Nat.reduceMul, Nat.reduceSub, ob1_e, ob2_e, ob3_e, ob4_e, ob6_e]
    · have e : ∀ k, f_X12_sum_21 GA GS GT (nI n) (nI tx) u (k + 1) p (nI a2) q code2 value2 codes2 (mI 1) = some (p, nI a2, q, code2, value2, codes2) := by
        intro k
        rw [show ∀ x1 x2 x3 x4 x5 x6 x7, f_X12_sum_21 GA GS GT (nI n) (nI tx) u (k + 1) x1 x2 x3 x4 x5 x6 x7 = b_X12_sum_21 GA GS GT (nI n) (nI tx) u (f_X12_sum_21 GA GS GT (nI n) (nI tx) u k) x1 x2 x3 x4 x5 x6 x7 from fun _ _ _ _ _ _ _ => rfl]
        simp (disch := omega) only [b_X12_sum_21, neg_nI, lit_nI, nI_add, pk_mul, pk_sub, nI_clamp, inB_nI, gd_true, bnd_def, nI_leI, nI_ltI, nI_eq, nI_mI, mI_nI, nle_T, nle_F, nlt_T, nlt_F, neq_T, neq_F, ↓reduceIte, Nat.add_zero, Nat.zero_add, Nat.mul_zero, Nat.reduceAdd, Nat.reduceMul, Nat.reduceSub, ob1_e, ob2_e, ob3_e, ob4_e, ob6_e]
      rw [← e k, ← ef]
      simp (disch := omega) only [g_X12_sum, b_X12_sum_0, b_X12_sum_20, g3, neg_nI, lit_nI, nI_add, pk_mul, pk_sub, nI_clamp, inB_nI, gd_true, bnd_def, nI_leI, nI_ltI, nI_eq, nI_mI, mI_nI, nle_T, nle_F, nlt_T, nlt_F, neq_T, neq_F, ↓reduceIte, Nat.add_zero, Nat.zero_add, Nat.mul_zero, Nat.reduceAdd, Nat.reduceMul, Nat.reduceSub, ob1_e, ob2_e, ob3_e, ob4_e, ob6_e]
theorem term_l (hn : n ≤ 240) (h : RT n t u) {dp h0 B0 a0 s s' tx : Nat} {lc code value codes : Nat → Int32} (hI : OKF n t u llT FA GA dp h0 B0) (hB : B0 ≤ 400) (hB2 : 240 ≤ B0) (hd : dp ≤ 6) (hs : s ≤ a0) (hs' : s' ≤ a0) (htx : tx ≤ 4) (hc : codes tx = nI s') : ∀ (j a a1 v2 : Nat) (c : Int32) (A : List Tok) (hA : Nat), n < a + j → a0 < a → a0 + A.length ≤ a → v2 < a → Ex A hA → hA ≤ h0 + 1 → SG n t u a a1 c → ∀ kx ky, j ≤ kx → j < ky → OUTL n tx dp s s' a0 (h0 + 1) (B0 + 1) lc code value codes (f_X1_readsTerm_12 FA FS FT (nI n) t llT kx (nI a) (nI (s + A.length)) (ap cs lc s A) (nI dp) (nI v2)) (f_X12_term_21 GA GS GT (nI n) (nI tx) u ky (nI a1) (mI 1) (nI dp) (ap tc code (520 * tx + s') A) (ap tv value (520 * tx + s') A) (upd codes tx (nI (s' + A.length))) c)
  | 0, a, a1, v2, c, A, hA, hj, h1, h2, h3, h4, h5, hsg, kx, ky, hkx, hky => by have := hsg.1; have := hsg.2.1; omega
  | j + 1, a, a1, v2, c, A, hA, hj, h1, h2, h3, h4, h5, hsg, kx, ky, hkx, hky => by
    obtain ⟨kx, rfl⟩ : ∃ k, kx = k + 1 := ⟨kx - 1, by omega⟩
    obtain ⟨ky, rfl⟩ : ∃ k, ky = k + 1 + 1 := ⟨ky - 2, by omega⟩
    obtain ⟨s1, s2, s3, s4, s5, s6, s7⟩ := hsg
    have ux : ∀ x1 x2 x3 x4 x5, f_X1_readsTerm_12 FA FS FT (nI n) t llT (kx + 1) x1 x2 x3 x4 x5 = b_X1_readsTerm_12 FA FS FT (nI n) t llT (f_X1_readsTerm_12 FA FS FT (nI n) t llT kx) x1 x2 x3 x4 x5 := fun _ _ _ _ _ => rfl
    have uy : ∀ k x1 x2 x3 x4 x5 x6 x7, f_X12_term_21 GA GS GT (nI n) (nI tx) u (k + 1) x1 x2 x3 x4 x5 x6 x7 = b_X12_term_21 GA GS GT (nI n) (nI tx) u (f_X12_term_21 GA GS GT (nI n) (nI tx) u k) x1 x2 x3 x4 x5 x6 x7 := fun _ _ _ _ _ _ _ _ => rfl
    rcases s7 with ⟨ec, en⟩ | ⟨b, b0, b1, b2, ec, hb, et, eu⟩
    · subst ec
      refine Or.inl ⟨A, a1, hA, by omega, s2, by omega, h4, h5, ?_, ?_⟩
      · rw [ux]; simp (disch := omega) only [b_X1_readsTerm_12, s3, neg_nI, lit_nI, nI_add, pk_mul, pk_sub, nI_clamp, inB_nI, gd_true, bnd_def, nI_leI, nI_ltI, nI_eq, nI_mI, mI_nI, nle_T, nle_F, nlt_T, nlt_F, neq_T, neq_F, ↓reduceIte, Nat.add_zero, Nat.zero_add, Nat.mul_zero, Nat.reduceAdd, Nat.reduceMul, Nat.reduceSub, ob1_e, ob2_e, ob3_e, ob4_e, ob6_e]
      · rw [uy]; simp (disch := omega) only [b_X12_term_21, neg_nI, lit_nI, nI_add, pk_mul, pk_sub, nI_clamp, inB_nI, gd_true, bnd_def, nI_leI, nI_ltI, nI_eq, nI_mI, mI_nI, nle_T, nle_F, nlt_T, nlt_F, neq_T, neq_F, ↓reduceIte, Nat.add_zero, Nat.zero_add, Nat.mul_zero, Nat.reduceAdd, Nat.reduceMul, Nat.reduceSub, ob1_e, ob2_e, ob3_e, ob4_e, ob6_e]
    subst ec
    have hgo : ∀ k, 2 ≤ k ∧ k ≤ 5 → ∀ vx : Int32, vx = cs (k, 0) → ∀ (X : Option XT) (Y : Option YT),
        (X = ob4 (FA (nI n) t llT (nI (a1 + 1)) (nI (s + A.length)) (ap cs lc s A) (nI dp)) fun r_2 at3 s4' c5 => if r_2 = nI 0 then some (nI 0, at3, s4', c5) else b_X1_readsTerm_76 FA FS FT (nI n) t llT (f_X1_readsTerm_12 FA FS FT (nI n) t llT kx) at3 s4' c5 (nI dp) (nI v2) vx) →
        (Y = ob6 (GA (nI n) (nI tx) u (nI (a1 + 1)) (mI 1) (nI dp) (ap tc code (520 * tx + s') A) (ap tv value (520 * tx + s') A) (upd codes tx (nI (s' + A.length)))) fun p w q c2 v3 cc => b_X12_term_59 GA GS GT (nI n) (nI tx) u (f_X12_term_21 GA GS GT (nI n) (nI tx) u (ky + 1)) p w q c2 v3 cc (nI k)) →
        OUTL n tx dp s s' a0 (h0 + 1) (B0 + 1) lc code value codes X Y := by
      intro k hk vx hvx X Y hX hY
      rcases hI (a1 + 1) (s + A.length) (s' + A.length) tx (ap cs lc s A) (ap tc code (520 * tx + s') A) (ap tv value (520 * tx + s') A) (upd codes tx (nI (s' + A.length))) (by omega) (by omega) (by omega) htx (upd_y rfl) with ⟨L, a2, hh, g1, g2, g3, g4, g5, g6, g7⟩ | ⟨a2, c2, x1, x2, p, q, code2, value2, codes2, g1, g2, g3, g4, g5, g6, g7⟩
      · obtain ⟨a3, c3, hs3⟩ := sg_c hn h g2
        have e2 := ap3 (f := cs) (r := lc) (o := s) (o1 := s + A.length) (o2 := s + A.length + L.length) (A := A) (B := L) (x := (k, 0)) rfl rfl hvx
        have e3 := ap3 (f := tc) (r := code) (o := 520 * tx + s') (o1 := 520 * tx + (s' + A.length)) (o2 := 520 * tx + (s' + A.length + L.length)) (A := A) (B := L) (x := (k, 0)) (v := nI k) (by omega) (by omega) rfl
        have e4 := ap3 (f := tv) (r := value) (o := 520 * tx + s') (o1 := 520 * tx + (s' + A.length)) (o2 := 520 * tx + (s' + A.length + L.length)) (A := A) (B := L) (x := (k, 0)) (v := nI 0) (by omega) (by omega) rfl
        have hl := len3 (A := A) (B := L) (x := (k, 0))
        have ih := term_l (lc := lc) (code := code) (value := value) (codes := codes) hn h hI hB hB2 hd hs hs' htx hc j a2 a3 (v2 + 1) c3 (A ++ (L ++ [(k, 0)])) (max hA (hh + 1)) (by omega) (by omega) (by omega) (by omega) (Ex.bin (by omega) h4 g4) (by omega) hs3 kx (ky + 1) (by omega) (by omega)
        rw [hl] at ih
        have ex : X = f_X1_readsTerm_12 FA FS FT (nI n) t llT kx (nI a2) (nI (s + (A.length + L.length + 1))) (ap cs lc s (A ++ (L ++ [(k, 0)]))) (nI dp) (nI (v2 + 1)) := by
          rw [hX, g6, ob4_e, if_neg (by decide)]
          unfold b_X1_readsTerm_76
          rw [putX (by omega), ob3_e, if_neg (by decide), e2]
          simp only [bnd_def, lit_nI, nI_add]
          rw [show s + A.length + L.length + 1 = s + (A.length + L.length + 1) by omega]
        have ey : Y = f_X12_term_21 GA GS GT (nI n) (nI tx) u (ky + 1) (nI a3) (mI 1) (nI dp) (ap tc code (520 * tx + s') (A ++ (L ++ [(k, 0)]))) (ap tv value (520 * tx + s') (A ++ (L ++ [(k, 0)]))) (upd codes tx (nI (s' + (A.length + L.length + 1)))) c3 := by
          rw [hY, g7, ob6_e]
          unfold b_X12_term_59 b_X12_term_79
          rw [lit_nI, putY htx (show s' + A.length + L.length < 520 by omega) (upd_y rfl), ob3_e, if_pos (show mI 1 = (-1 : Int32) from rfl), hs3.2.2.2.1, ob2_e, e3, e4, upd_upd, upd_upd, show s' + A.length + L.length + 1 = s' + (A.length + L.length + 1) by omega]
        rw [ex, ey]
        exact ih
      · refine Or.inr ⟨a2, c2 + 1, x1, x2, p, q, upd code2 (520 * tx + c2) (nI k), upd value2 (520 * tx + c2) (nI 0), upd codes2 tx (nI (c2 + 1)), g1, ?_, ?_, upd_y rfl, by omega, fun i hi => ?_, fun i hi => ?_⟩
        · rw [hX, g2, ob4_e, if_pos rfl]
        · rw [hY, g3, ob6_e]
          unfold b_X12_term_59 b_X12_term_79
          rw [lit_nI, putY htx (show c2 < 520 by omega) g4, ob3_e, if_neg (show ¬ nI a2 = (-1 : Int32) from nI_nm (by omega)), uy]
          simp (disch := omega) only [b_X12_term_21, neg_nI, lit_nI, nI_add, pk_mul, pk_sub, nI_clamp, inB_nI, gd_true, bnd_def, nI_leI, nI_ltI, nI_eq, nI_mI, mI_nI, nle_T, nle_F, nlt_T, nlt_F, neq_T, neq_F, ↓reduceIte, Nat.add_zero, Nat.zero_add, Nat.mul_zero, Nat.reduceAdd, Nat.reduceMul, Nat.reduceSub, ob1_e, ob2_e, ob3_e, ob4_e, ob6_e]
        · obtain ⟨w1, w2⟩ := g6 i hi
          have w3 : (i < 520 * tx + s' ∨ 520 * tx + s' + A.length ≤ i) := by omega
          rw [upd_n (by omega), upd_n (by omega), w1, w2, ap_out _ _ _ _ w3, ap_out _ _ _ _ w3]
          exact ⟨rfl, rfl⟩
        · rw [upd_n hi, g7 i hi, upd_n hi]
    by_cases q1 : b = 42
    · subst q1
      refine hgo 4 (by omega) (mI 4) (by decide) _ _ ?_ ?_
      · rw [ux]; simp (disch := omega) only [b_X1_readsTerm_12, b_X1_readsTerm_41, s3, neg_nI, lit_nI, nI_add, pk_mul, pk_sub, nI_clamp, inB_nI, gd_true, bnd_def, nI_leI, nI_ltI, nI_eq, nI_mI, mI_nI, nle_T, nle_F, nlt_T, nlt_F, neq_T, neq_F, ↓reduceIte, Nat.add_zero, Nat.zero_add, Nat.mul_zero, Nat.reduceAdd, Nat.reduceMul, Nat.reduceSub, ob1_e, ob2_e, ob3_e, ob4_e, ob6_e]
      · rw [uy]; simp (disch := omega) only [b_X12_term_21, b_X12_term_33, neg_nI, lit_nI, nI_add, pk_mul, pk_sub, nI_clamp, inB_nI, gd_true, bnd_def, nI_leI, nI_ltI, nI_eq, nI_mI, mI_nI, nle_T, nle_F, nlt_T, nlt_F, neq_T, neq_F, ↓reduceIte, Nat.add_zero, Nat.zero_add, Nat.mul_zero, Nat.reduceAdd, Nat.reduceMul, Nat.reduceSub, ob1_e, ob2_e, ob3_e, ob4_e, ob6_e]
    by_cases q2 : b = 47
    · subst q2
      refine hgo 5 (by omega) (mI 5) (by decide) _ _ ?_ ?_
      · rw [ux]; simp (disch := omega) only [b_X1_readsTerm_12, b_X1_readsTerm_41, s3, neg_nI, lit_nI, nI_add, pk_mul, pk_sub, nI_clamp, inB_nI, gd_true, bnd_def, nI_leI, nI_ltI, nI_eq, nI_mI, mI_nI, nle_T, nle_F, nlt_T, nlt_F, neq_T, neq_F, ↓reduceIte, Nat.add_zero, Nat.zero_add, Nat.mul_zero, Nat.reduceAdd, Nat.reduceMul, Nat.reduceSub, ob1_e, ob2_e, ob3_e, ob4_e, ob6_e]
      · rw [uy]; simp (disch := omega) only [b_X12_term_21, b_X12_term_33, neg_nI, lit_nI, nI_add, pk_mul, pk_sub, nI_clamp, inB_nI, gd_true, bnd_def, nI_leI, nI_ltI, nI_eq, nI_mI, mI_nI, nle_T, nle_F, nlt_T, nlt_F, neq_T, neq_F, ↓reduceIte, Nat.add_zero, Nat.zero_add, Nat.mul_zero, Nat.reduceAdd, Nat.reduceMul, Nat.reduceSub, ob1_e, ob2_e, ob3_e, ob4_e, ob6_e]
    · refine Or.inl ⟨A, a1, hA, by omega, s2, by omega, h4, h5, ?_, ?_⟩
      · rw [ux]; simp (disch := omega) only [b_X1_readsTerm_12, s3, neg_nI, lit_nI, nI_add, pk_mul, pk_sub, nI_clamp, inB_nI, gd_true, bnd_def, nI_leI, nI_ltI, nI_eq, nI_mI, mI_nI, nle_T, nle_F, nlt_T, nlt_F, neq_T, neq_F, ↓reduceIte, Nat.add_zero, Nat.zero_add, Nat.mul_zero, Nat.reduceAdd, Nat.reduceMul, Nat.reduceSub, ob1_e, ob2_e, ob3_e, ob4_e, ob6_e]
      · rw [uy]; simp (disch := omega) only [b_X12_term_21, neg_nI, lit_nI, nI_add, pk_mul, pk_sub, nI_clamp, inB_nI, gd_true, bnd_def, nI_leI, nI_ltI, nI_eq, nI_mI, mI_nI, nle_T, nle_F, nlt_T, nlt_F, neq_T, neq_F, ↓reduceIte, Nat.add_zero, Nat.zero_add, Nat.mul_zero, Nat.reduceAdd, Nat.reduceMul, Nat.reduceSub, ob1_e, ob2_e, ob3_e, ob4_e, ob6_e]
theorem term_o (hn : n ≤ 240) (h : RT n t u) {dp h0 B0 : Nat} (hI : OKF n t u llT FA GA dp h0 B0) (hB : B0 ≤ 400) (hB2 : 240 ≤ B0) (hd : dp ≤ 6) : OKF n t u llT (g_X1_readsTerm FA FS FT) (g_X12_term GA GS GT) dp (h0 + 1) (B0 + 1) := by
  intro a s s' tx lc code value codes ha hs hs' htx hc
  have hf := fu_le
  rcases hI a s s' tx lc code value codes ha hs hs' htx hc with ⟨L, a2, hh, g1, g2, g3, g4, g5, g6, g7⟩ | ⟨a2, c2, x1, x2, p, q, code2, value2, codes2, g1, g2, g3, g4, g5, g6, g7⟩
  · obtain ⟨a3, c3, hs3⟩ := sg_c hn h g2
    have := term_l (FA := FA) (FS := FS) (GA := GA) (GS := GS) (FT := FT) (GT := GT) (lc := lc) (code := code) (value := value) (codes := codes) hn h hI hB hB2 hd hs hs' htx hc (n + 1) a2 a3 0 c3 L hh (by omega) g1 g3 (by omega) g4 (by omega) hs3 fu fu (by omega) (by omega)
    have ex : g_X1_readsTerm FA FS FT (nI n) t llT (nI a) (nI s) lc (nI dp) = f_X1_readsTerm_12 FA FS FT (nI n) t llT fu (nI a2) (nI (s + L.length)) (ap cs lc s L) (nI dp) (nI 0) := by
      simp (disch := omega) only [g_X1_readsTerm, b_X1_readsTerm_0, g6, neg_nI, lit_nI, nI_add, pk_mul, pk_sub, nI_clamp, inB_nI, gd_true, bnd_def, nI_leI, nI_ltI, nI_eq, nI_mI, mI_nI, nle_T, nle_F, nlt_T, nlt_F, neq_T, neq_F, ↓reduceIte, Nat.add_zero, Nat.zero_add, Nat.mul_zero, Nat.reduceAdd, Nat.reduceMul, Nat.reduceSub, ob1_e, ob2_e, ob3_e, ob4_e, ob6_e]
    have ey : g_X12_term GA GS GT (nI n) (nI tx) u (nI a) (mI 1) (nI dp) code value codes = f_X12_term_21 GA GS GT (nI n) (nI tx) u fu (nI a3) (mI 1) (nI dp) (ap tc code (520 * tx + s') L) (ap tv value (520 * tx + s') L) (upd codes tx (nI (s' + L.length))) c3 := by
      simp (disch := omega) only [g_X12_term, b_X12_term_0, b_X12_term_20, g7, hs3.2.2.2.1, neg_nI, lit_nI, nI_add, pk_mul, pk_sub, nI_clamp, inB_nI, gd_true, bnd_def, nI_leI, nI_ltI, nI_eq, nI_mI, mI_nI, nle_T, nle_F, nlt_T, nlt_F, neq_T, neq_F, ↓reduceIte, Nat.add_zero, Nat.zero_add, Nat.mul_zero, Nat.reduceAdd, Nat.reduceMul, Nat.reduceSub, ob1_e, ob2_e, ob3_e, ob4_e, ob6_e]
    rw [ex, ey]
    exact this
  · obtain ⟨k, ef⟩ : ∃ k, fu = k + 1 := ⟨fu - 1, by omega⟩
    refine Or.inr ⟨a2, c2, x1, x2, p, q, code2, value2, codes2, g1, ?_, ?_, g4, by omega, g6, g7⟩
    · simp (disch := omega) only [g_X1_readsTerm, b_X1_readsTerm_0, g2, neg_nI, lit_nI, nI_add, pk_mul, pk_sub, nI_clamp, inB_nI, gd_true, bnd_def, nI_leI, nI_ltI, nI_eq, nI_mI, mI_nI, nle_T, nle_F, nlt_T, nlt_F, neq_T, neq_F, ↓reduceIte, Nat.add_zero, Nat.zero_add, Nat.mul_zero, Nat.reduceAdd, Nat.reduceMul, Nat.reduceSub, ob1_e, ob2_e, ob3_e, ob4_e, ob6_e]
    · have e : ∀ k, f_X12_term_21 GA GS GT (nI n) (nI tx) u (k + 1) p (nI a2) q code2 value2 codes2 (mI 1) = some (p, nI a2, q, code2, value2, codes2) := by
        intro k
        rw [show ∀ x1 x2 x3 x4 x5 x6 x7, f_X12_term_21 GA GS GT (nI n) (nI tx) u (k + 1) x1 x2 x3 x4 x5 x6 x7 = b_X12_term_21 GA GS GT (nI n) (nI tx) u (f_X12_term_21 GA GS GT (nI n) (nI tx) u k) x1 x2 x3 x4 x5 x6 x7 from fun _ _ _ _ _ _ _ => rfl]
        simp (disch := omega) only [b_X12_term_21, neg_nI, lit_nI, nI_add, pk_mul, pk_sub, nI_clamp, inB_nI, gd_true, bnd_def, nI_leI, nI_ltI, nI_eq, nI_mI, mI_nI, nle_T, nle_F, nlt_T, nlt_F, neq_T, neq_F, ↓reduceIte, Nat.add_zero, Nat.zero_add, Nat.mul_zero, Nat.reduceAdd, Nat.reduceMul, Nat.reduceSub, ob1_e, ob2_e, ob3_e, ob4_e, ob6_e]
      rw [← e k, ← ef]
      simp (disch := omega) only [g_X12_term, b_X12_term_0, b_X12_term_20, g3, neg_nI, lit_nI, nI_add, pk_mul, pk_sub, nI_clamp, inB_nI, gd_true, bnd_def, nI_leI, nI_ltI, nI_eq, nI_mI, mI_nI, nle_T, nle_F, nlt_T, nlt_F, neq_T, neq_F, ↓reduceIte, Nat.add_zero, Nat.zero_add, Nat.mul_zero, Nat.reduceAdd, Nat.reduceMul, Nat.reduceSub, ob1_e, ob2_e, ob3_e, ob4_e, ob6_e]
theorem expr_o (hn : n ≤ 240) (h : RT n t u) (tb : LT6 llT) : ∀ (k dp : Nat), dp + k = 6 → ∀ d d', 3 * k + 3 ≤ d → 3 * k + 3 ≤ d' → OKF n t u llT (f_X1_readsSum d) (f_X12_sum d') dp (2 * (6 - dp) + 3) (240 + 10 * (6 - dp) + 2)
  | 0, dp, hk, d, d', hd, hd' => by
    obtain ⟨d, rfl⟩ : ∃ e, d = e + 1 + 1 + 1 := ⟨d - 3, by omega⟩
    obtain ⟨d', rfl⟩ : ∃ e, d' = e + 1 + 1 + 1 := ⟨d' - 3, by omega⟩
    have h1 : OKF n t u llT (f_X1_readsAtom (d + 1)) (f_X12_atom (d' + 1)) dp _ _ := atom_o (FA := f_X1_readsAtom d) (FS := f_X1_readsSum d) (FT := f_X1_readsTerm d) (GA := f_X12_atom d') (GS := f_X12_sum d') (GT := f_X12_term d') hn h tb (by omega) (fun q => by omega)
    have h2 : OKF n t u llT (f_X1_readsTerm (d + 1 + 1)) (f_X12_term (d' + 1 + 1)) dp _ _ := term_o (FA := f_X1_readsAtom (d + 1)) (FS := f_X1_readsSum (d + 1)) (FT := f_X1_readsTerm (d + 1)) (GA := f_X12_atom (d' + 1)) (GS := f_X12_sum (d' + 1)) (GT := f_X12_term (d' + 1)) hn h h1 (by omega) (by omega) (by omega)
    have h3 : OKF n t u llT (f_X1_readsSum (d + 1 + 1 + 1)) (f_X12_sum (d' + 1 + 1 + 1)) dp _ _ := sum_o (FA := f_X1_readsAtom (d + 1 + 1)) (FS := f_X1_readsSum (d + 1 + 1)) (FT := f_X1_readsTerm (d + 1 + 1)) (GA := f_X12_atom (d' + 1 + 1)) (GS := f_X12_sum (d' + 1 + 1)) (GT := f_X12_term (d' + 1 + 1)) hn h h2 (by omega) (by omega) (by omega)
    exact h3
  | k + 1, dp, hk, d, d', hd, hd' => by
    obtain ⟨d, rfl⟩ : ∃ e, d = e + 1 + 1 + 1 := ⟨d - 3, by omega⟩
    obtain ⟨d', rfl⟩ : ∃ e, d' = e + 1 + 1 + 1 := ⟨d' - 3, by omega⟩
    have h0 := expr_o hn h tb k (dp + 1) (by omega) d d' (by omega) (by omega)
    have h0' : OKF n t u llT (f_X1_readsSum d) (f_X12_sum d') (dp + 1) (2 * (6 - dp) + 1) (240 + 10 * (6 - dp)) := by
      intro a s s' tx lc code value codes ha hs hs' htx hc
      rcases h0 a s s' tx lc code value codes ha hs hs' htx hc with ⟨L, a2, hh, g1, g2, g3, g4, g5, g6⟩ | ⟨a2, c2, x1, x2, p, q, code2, value2, codes2, g1, g2, g3, g4, g5, g6⟩
      · exact Or.inl ⟨L, a2, hh, g1, g2, g3, g4, by omega, g6⟩
      · exact Or.inr ⟨a2, c2, x1, x2, p, q, code2, value2, codes2, g1, g2, g3, g4, by omega, g6⟩
    have h1 : OKF n t u llT (f_X1_readsAtom (d + 1)) (f_X12_atom (d' + 1)) dp _ _ := atom_o (FA := f_X1_readsAtom d) (FS := f_X1_readsSum d) (FT := f_X1_readsTerm d) (GA := f_X12_atom d') (GS := f_X12_sum d') (GT := f_X12_term d') hn h tb (by omega) (fun _ => h0')
    have h2 : OKF n t u llT (f_X1_readsTerm (d + 1 + 1)) (f_X12_term (d' + 1 + 1)) dp _ _ := term_o (FA := f_X1_readsAtom (d + 1)) (FS := f_X1_readsSum (d + 1)) (FT := f_X1_readsTerm (d + 1)) (GA := f_X12_atom (d' + 1)) (GS := f_X12_sum (d' + 1)) (GT := f_X12_term (d' + 1)) hn h h1 (by omega) (by omega) (by omega)
    have h3 : OKF n t u llT (f_X1_readsSum (d + 1 + 1 + 1)) (f_X12_sum (d' + 1 + 1 + 1)) dp _ _ := sum_o (FA := f_X1_readsAtom (d + 1 + 1)) (FS := f_X1_readsSum (d + 1 + 1)) (FT := f_X1_readsTerm (d + 1 + 1)) (GA := f_X12_atom (d' + 1 + 1)) (GS := f_X12_sum (d' + 1 + 1)) (GT := f_X12_term (d' + 1 + 1)) hn h h2 (by omega) (by omega) (by omega)
    exact h3
theorem sum60 (hn : n ≤ 240) (h : RT n t u) (tb : LT6 llT) {dp : Nat} (hd : dp ≤ 6) : OKF n t u llT (f_X1_readsSum 60) (f_X12_sum 60) dp (2 * (6 - dp) + 3) (240 + 10 * (6 - dp) + 2) := expr_o hn h tb (6 - dp) dp (by omega) 60 60 (by omega) (by omega)
end SU
end
section
/-! conditions by both -/
def OKA (n : Nat) (t u llT : Nat → Int32) (fx : FX) (fy : FY) (dp hA hh B : Nat) : Prop := ∀ (a0 a s s' tx h : Nat) (lc code value codes : Nat → Int32) (A : List Tok), a ≤ n → a0 < a → a0 + A.length ≤ a → s ≤ a0 → s' ≤ a0 → tx ≤ 4 → codes tx = nI s' → Ex A h → h ≤ hA → OUTL n tx dp s s' a0 hh B lc code value codes (fx (nI n) t llT (nI a) (nI (s + A.length)) (ap cs lc s A) (nI dp)) (fy (nI n) (nI tx) u (nI a) (mI 1) (nI dp) (ap tc code (520 * tx + s') A) (ap tv value (520 * tx + s') A) (upd codes tx (nI (s' + A.length))))
def IDW (n : Nat) (u : Nat → Int32) (fy : FY) : Prop := ∀ (tx w : Nat) (p q : Int32) (code value codes : Nat → Int32), w ≤ 240 → fy (nI n) (nI tx) u p (nI w) q code value codes = some (p, nI w, q, code, value, codes)
/-- the end with a fault, seen from before A -/
theorem BADL_base {n tx B B' s' : Nat} {code value codes : Nat → Int32} {A : List Tok} {x x' : Option XT} {y y' : Option YT} (h : BADL n tx B (ap tc code (520 * tx + s') A) (ap tv value (520 * tx + s') A) (upd codes tx (nI (s' + A.length))) x y) (hl : s' + A.length ≤ 520) (hB : B ≤ B') (hx : x' = x) (hy : y' = y) : BADL n tx B' code value codes x' y' := by
  subst hx hy
  obtain ⟨a2, c2, x1, x2, p, q, code2, value2, codes2, g1, g2, g3, g4, g5, g6, g7⟩ := h
  refine ⟨a2, c2, x1, x2, p, q, code2, value2, codes2, g1, g2, g3, g4, by omega, fun i hi => ?_, fun i hi => ?_⟩
  · obtain ⟨w1, w2⟩ := g6 i hi
    have w3 : (i < 520 * tx + s' ∨ 520 * tx + s' + A.length ≤ i) := by omega
    rw [w1, w2, ap_out _ _ _ _ w3, ap_out _ _ _ _ w3]
    exact ⟨rfl, rfl⟩
  · rw [g7 i hi, upd_n hi]
section CO
variable {n : Nat} {t u llT : Nat → Int32} {FC FO FM FU : FX} {GC GA GO GU : FY}
theorem cmp_o (hn : n ≤ 240) (h : RT n t u) (tb : LT6 llT) {dp : Nat} (hd : dp ≤ 6) : OKA n t u llT f_X1_readsComparison f_X12_compare dp (2 * (6 - dp) + 3) (2 * (6 - dp) + 4) (240 + 10 * (6 - dp) + 3) := by
  intro a0 a s s' tx hA lc code value codes A ha h0 h1 hs hs' htx hc eA hhA
  obtain ⟨a1, c, s1, s2, s3, s4, s5, s6, s7⟩ := sg_c hn h ha
  have hno : ∀ (hx : f_X1_comparison c = some (mI 1)) (hy : f_X12_isSign c = some (nI 0)), OUTL n tx dp s s' a0 (2 * (6 - dp) + 4) (240 + 10 * (6 - dp) + 3) lc code value codes (f_X1_readsComparison (nI n) t llT (nI a) (nI (s + A.length)) (ap cs lc s A) (nI dp)) (f_X12_compare (nI n) (nI tx) u (nI a) (mI 1) (nI dp) (ap tc code (520 * tx + s') A) (ap tv value (520 * tx + s') A) (upd codes tx (nI (s' + A.length)))) := by
    intro hx hy
    refine Or.inr ⟨a1, s' + A.length, nI (s + A.length), ap cs lc s A, nI a1, nI dp, ap tc code (520 * tx + s') A, ap tv value (520 * tx + s') A, upd codes tx (nI (s' + A.length)), s2, ?_, ?_, upd_y rfl, by omega, fun i hi => ⟨ap_out _ _ _ _ (by omega), ap_out _ _ _ _ (by omega)⟩, fun i hi => upd_n hi⟩
    · simp (disch := omega) only [f_X1_readsComparison, b_X1_readsComparison_0, s3, hx, neg_nI, lit_nI, nI_add, pk_mul, pk_sub, nI_clamp, inB_nI, gd_true, bnd_def, nI_leI, nI_ltI, nI_eq, nI_mI, mI_nI, nle_T, nle_F, nlt_T, nlt_F, neq_T, neq_F, ↓reduceIte, Nat.add_zero, Nat.zero_add, Nat.mul_zero, Nat.reduceAdd, Nat.reduceMul, Nat.reduceSub, ob1_e, ob2_e, ob3_e, ob4_e, ob6_e]
    · simp (disch := omega) only [f_X12_compare, b_X12_compare_0, b_X12_compare_16, s4, hy, bad_n, neg_nI, lit_nI, nI_add, pk_mul, pk_sub, nI_clamp, inB_nI, gd_true, bnd_def, nI_leI, nI_ltI, nI_eq, nI_mI, mI_nI, nle_T, nle_F, nlt_T, nlt_F, neq_T, neq_F, ↓reduceIte, Nat.add_zero, Nat.zero_add, Nat.mul_zero, Nat.reduceAdd, Nat.reduceMul, Nat.reduceSub, ob1_e, ob2_e, ob3_e, ob4_e, ob6_e]
  rcases s7 with ⟨ec, en⟩ | ⟨b, b0, b1, b2, ec, hb, et, eu⟩
  · subst ec
    apply hno
    · simp (disch := omega) only [f_X1_comparison, b_X1_comparison_0, neg_nI, lit_nI, nI_add, pk_mul, pk_sub, nI_clamp, inB_nI, gd_true, bnd_def, nI_leI, nI_ltI, nI_eq, nI_mI, mI_nI, nle_T, nle_F, nlt_T, nlt_F, neq_T, neq_F, ↓reduceIte, Nat.add_zero, Nat.zero_add, Nat.mul_zero, Nat.reduceAdd, Nat.reduceMul, Nat.reduceSub, ob1_e, ob2_e, ob3_e, ob4_e, ob6_e]
    · simp (disch := omega) only [f_X12_isSign, b_X12_isSign_0, b_X12_isSign_18, neg_nI, lit_nI, nI_add, pk_mul, pk_sub, nI_clamp, inB_nI, gd_true, bnd_def, nI_leI, nI_ltI, nI_eq, nI_mI, mI_nI, nle_T, nle_F, nlt_T, nlt_F, neq_T, neq_F, ↓reduceIte, Nat.add_zero, Nat.zero_add, Nat.mul_zero, Nat.reduceAdd, Nat.reduceMul, Nat.reduceSub, ob1_e, ob2_e, ob3_e, ob4_e, ob6_e]
  subst ec
  have hgo : ∀ k, 6 ≤ k ∧ k ≤ 8 → ∀ (hx : f_X1_comparison (nI b) = some (cs (k, 0))) (hx2 : cs (k, 0) ≠ mI 1) (Y : Option YT) (hY : Y = ob6 (f_X12_sum 60 (nI n) (nI tx) u (nI (a1 + 1)) (mI 1) (nI dp) (ap tc code (520 * tx + s') A) (ap tv value (520 * tx + s') A) (upd codes tx (nI (s' + A.length)))) fun p w q c2 v3 cc => b_X12_compare_68 (nI n) (nI tx) u p w q c2 v3 cc (nI k)), OUTL n tx dp s s' a0 (2 * (6 - dp) + 4) (240 + 10 * (6 - dp) + 3) lc code value codes (f_X1_readsComparison (nI n) t llT (nI a) (nI (s + A.length)) (ap cs lc s A) (nI dp)) Y := by
    intro k hk hx hx2 Y hY
    rcases sum60 hn h tb hd (a1 + 1) (s + A.length) (s' + A.length) tx (ap cs lc s A) (ap tc code (520 * tx + s') A) (ap tv value (520 * tx + s') A) (upd codes tx (nI (s' + A.length))) (by omega) (by omega) (by omega) htx (upd_y rfl) with ⟨L, a2, hh, g1, g2, g3, g4, g5, g6, g7⟩ | ⟨a2, c2, x1, x2, p, q, code2, value2, codes2, g1, g2, g3, g4, g5, g6, g7⟩
    · have e2 := ap3 (f := cs) (r := lc) (o := s) (o1 := s + A.length) (o2 := s + A.length + L.length) (A := A) (B := L) (x := (k, 0)) rfl rfl rfl
      have e3 := ap3 (f := tc) (r := code) (o := 520 * tx + s') (o1 := 520 * tx + (s' + A.length)) (o2 := 520 * tx + (s' + A.length + L.length)) (A := A) (B := L) (x := (k, 0)) (v := nI k) (by omega) (by omega) rfl
      have e4 := ap3 (f := tv) (r := value) (o := 520 * tx + s') (o1 := 520 * tx + (s' + A.length)) (o2 := 520 * tx + (s' + A.length + L.length)) (A := A) (B := L) (x := (k, 0)) (v := nI 0) (by omega) (by omega) rfl
      have hl := len3 (A := A) (B := L) (x := (k, 0))
      refine Or.inl ⟨A ++ (L ++ [(k, 0)]), a2, max hA (hh + 1), by omega, g2, by omega, Ex.bin (by omega) eA g4, by omega, ?_, ?_⟩
      · simp (disch := omega) only [f_X1_readsComparison, b_X1_readsComparison_0, s3, hx, hx2, g6, putX, e2, hl, neg_nI, lit_nI, nI_add, pk_mul, pk_sub, nI_clamp, inB_nI, gd_true, bnd_def, nI_leI, nI_ltI, nI_eq, nI_mI, mI_nI, nle_T, nle_F, nlt_T, nlt_F, neq_T, neq_F, ↓reduceIte, Nat.add_zero, Nat.zero_add, Nat.mul_zero, Nat.reduceAdd, Nat.reduceMul, Nat.reduceSub, ob1_e, ob2_e, ob3_e, ob4_e, ob6_e]
        rw [show s + A.length + L.length + 1 = s + (A.length + L.length + 1) by omega]
      · rw [hY, g7, ob6_e, hl]
        unfold b_X12_compare_68
        rw [lit_nI, putY htx (show s' + A.length + L.length < 520 by omega) (upd_y rfl), ob3_e, e3, e4, upd_upd, upd_upd, show s' + A.length + L.length + 1 = s' + (A.length + L.length + 1) by omega]
    · refine Or.inr ⟨a2, c2 + 1, x1, x2, p, q, upd code2 (520 * tx + c2) (nI k), upd value2 (520 * tx + c2) (nI 0), upd codes2 tx (nI (c2 + 1)), g1, ?_, ?_, upd_y rfl, by omega, fun i hi => ?_, fun i hi => ?_⟩
      · simp (disch := omega) only [f_X1_readsComparison, b_X1_readsComparison_0, s3, hx, hx2, g2, neg_nI, lit_nI, nI_add, pk_mul, pk_sub, nI_clamp, inB_nI, gd_true, bnd_def, nI_leI, nI_ltI, nI_eq, nI_mI, mI_nI, nle_T, nle_F, nlt_T, nlt_F, neq_T, neq_F, ↓reduceIte, Nat.add_zero, Nat.zero_add, Nat.mul_zero, Nat.reduceAdd, Nat.reduceMul, Nat.reduceSub, ob1_e, ob2_e, ob3_e, ob4_e, ob6_e]
      · rw [hY, g3, ob6_e]
        unfold b_X12_compare_68
        rw [lit_nI, putY htx (show c2 < 520 by omega) g4, ob3_e]
      · obtain ⟨w1, w2⟩ := g6 i hi
        have w3 : (i < 520 * tx + s' ∨ 520 * tx + s' + A.length ≤ i) := by omega
        rw [upd_n (by omega), upd_n (by omega), w1, w2, ap_out _ _ _ _ w3, ap_out _ _ _ _ w3]
        exact ⟨rfl, rfl⟩
      · rw [upd_n hi, g7 i hi, upd_n hi]
  by_cases q6 : b = 61
  · subst q6
    refine hgo 6 (by omega) ?_ (by decide) _ ?_
    · simp (disch := omega) only [f_X1_comparison, b_X1_comparison_0, neg_nI, lit_nI, nI_add, pk_mul, pk_sub, nI_clamp, inB_nI, gd_true, bnd_def, nI_leI, nI_ltI, nI_eq, nI_mI, mI_nI, nle_T, nle_F, nlt_T, nlt_F, neq_T, neq_F, ↓reduceIte, Nat.add_zero, Nat.zero_add, Nat.mul_zero, Nat.reduceAdd, Nat.reduceMul, Nat.reduceSub, ob1_e, ob2_e, ob3_e, ob4_e, ob6_e]
      rfl
    · have hy : f_X12_isSign (nI 61) = some (nI 1) := by simp (disch := omega) only [f_X12_isSign, b_X12_isSign_0, b_X12_isSign_18, neg_nI, lit_nI, nI_add, pk_mul, pk_sub, nI_clamp, inB_nI, gd_true, bnd_def, nI_leI, nI_ltI, nI_eq, nI_mI, mI_nI, nle_T, nle_F, nlt_T, nlt_F, neq_T, neq_F, ↓reduceIte, Nat.add_zero, Nat.zero_add, Nat.mul_zero, Nat.reduceAdd, Nat.reduceMul, Nat.reduceSub, ob1_e, ob2_e, ob3_e, ob4_e, ob6_e]
      simp (disch := omega) only [f_X12_compare, b_X12_compare_0, b_X12_compare_16, s4, hy, neg_nI, lit_nI, nI_add, pk_mul, pk_sub, nI_clamp, inB_nI, gd_true, bnd_def, nI_leI, nI_ltI, nI_eq, nI_mI, mI_nI, nle_T, nle_F, nlt_T, nlt_F, neq_T, neq_F, ↓reduceIte, Nat.add_zero, Nat.zero_add, Nat.mul_zero, Nat.reduceAdd, Nat.reduceMul, Nat.reduceSub, ob1_e, ob2_e, ob3_e, ob4_e, ob6_e]
  by_cases q7 : b = 60
  · subst q7
    refine hgo 7 (by omega) ?_ (by decide) _ ?_
    · simp (disch := omega) only [f_X1_comparison, b_X1_comparison_0, neg_nI, lit_nI, nI_add, pk_mul, pk_sub, nI_clamp, inB_nI, gd_true, bnd_def, nI_leI, nI_ltI, nI_eq, nI_mI, mI_nI, nle_T, nle_F, nlt_T, nlt_F, neq_T, neq_F, ↓reduceIte, Nat.add_zero, Nat.zero_add, Nat.mul_zero, Nat.reduceAdd, Nat.reduceMul, Nat.reduceSub, ob1_e, ob2_e, ob3_e, ob4_e, ob6_e]
      rfl
    · have hy : f_X12_isSign (nI 60) = some (nI 1) := by simp (disch := omega) only [f_X12_isSign, b_X12_isSign_0, b_X12_isSign_18, neg_nI, lit_nI, nI_add, pk_mul, pk_sub, nI_clamp, inB_nI, gd_true, bnd_def, nI_leI, nI_ltI, nI_eq, nI_mI, mI_nI, nle_T, nle_F, nlt_T, nlt_F, neq_T, neq_F, ↓reduceIte, Nat.add_zero, Nat.zero_add, Nat.mul_zero, Nat.reduceAdd, Nat.reduceMul, Nat.reduceSub, ob1_e, ob2_e, ob3_e, ob4_e, ob6_e]
      simp (disch := omega) only [f_X12_compare, b_X12_compare_0, b_X12_compare_16, s4, hy, neg_nI, lit_nI, nI_add, pk_mul, pk_sub, nI_clamp, inB_nI, gd_true, bnd_def, nI_leI, nI_ltI, nI_eq, nI_mI, mI_nI, nle_T, nle_F, nlt_T, nlt_F, neq_T, neq_F, ↓reduceIte, Nat.add_zero, Nat.zero_add, Nat.mul_zero, Nat.reduceAdd, Nat.reduceMul, Nat.reduceSub, ob1_e, ob2_e, ob3_e, ob4_e, ob6_e]
  by_cases q8 : b = 62
  · subst q8
    refine hgo 8 (by omega) ?_ (by decide) _ ?_
    · simp (disch := omega) only [f_X1_comparison, b_X1_comparison_0, neg_nI, lit_nI, nI_add, pk_mul, pk_sub, nI_clamp, inB_nI, gd_true, bnd_def, nI_leI, nI_ltI, nI_eq, nI_mI, mI_nI, nle_T, nle_F, nlt_T, nlt_F, neq_T, neq_F, ↓reduceIte, Nat.add_zero, Nat.zero_add, Nat.mul_zero, Nat.reduceAdd, Nat.reduceMul, Nat.reduceSub, ob1_e, ob2_e, ob3_e, ob4_e, ob6_e]
      rfl
    · have hy : f_X12_isSign (nI 62) = some (nI 1) := by simp (disch := omega) only [f_X12_isSign, b_X12_isSign_0, b_X12_isSign_18, neg_nI, lit_nI, nI_add, pk_mul, pk_sub, nI_clamp, inB_nI, gd_true, bnd_def, nI_leI, nI_ltI, nI_eq, nI_mI, mI_nI, nle_T, nle_F, nlt_T, nlt_F, neq_T, neq_F, ↓reduceIte, Nat.add_zero, Nat.zero_add, Nat.mul_zero, Nat.reduceAdd, Nat.reduceMul, Nat.reduceSub, ob1_e, ob2_e, ob3_e, ob4_e, ob6_e]
      simp (disch := omega) only [f_X12_compare, b_X12_compare_0, b_X12_compare_16, s4, hy, neg_nI, lit_nI, nI_add, pk_mul, pk_sub, nI_clamp, inB_nI, gd_true, bnd_def, nI_leI, nI_ltI, nI_eq, nI_mI, mI_nI, nle_T, nle_F, nlt_T, nlt_F, neq_T, neq_F, ↓reduceIte, Nat.add_zero, Nat.zero_add, Nat.mul_zero, Nat.reduceAdd, Nat.reduceMul, Nat.reduceSub, ob1_e, ob2_e, ob3_e, ob4_e, ob6_e]

  apply hno
  · simp (disch := omega) only [f_X1_comparison, b_X1_comparison_0, neg_nI, lit_nI, nI_add, pk_mul, pk_sub, nI_clamp, inB_nI, gd_true, bnd_def, nI_leI, nI_ltI, nI_eq, nI_mI, mI_nI, nle_T, nle_F, nlt_T, nlt_F, neq_T, neq_F, ↓reduceIte, Nat.add_zero, Nat.zero_add, Nat.mul_zero, Nat.reduceAdd, Nat.reduceMul, Nat.reduceSub, ob1_e, ob2_e, ob3_e, ob4_e, ob6_e]
  · simp (disch := omega) only [f_X12_isSign, b_X12_isSign_0, b_X12_isSign_18, neg_nI, lit_nI, nI_add, pk_mul, pk_sub, nI_clamp, inB_nI, gd_true, bnd_def, nI_leI, nI_ltI, nI_eq, nI_mI, mI_nI, nle_T, nle_F, nlt_T, nlt_F, neq_T, neq_F, ↓reduceIte, Nat.add_zero, Nat.zero_add, Nat.mul_zero, Nat.reduceAdd, Nat.reduceMul, Nat.reduceSub, ob1_e, ob2_e, ob3_e, ob4_e, ob6_e]
theorem unit_o (hn : n ≤ 240) (h : RT n t u) (tb : LT6 llT) {dp : Nat} (hd : dp ≤ 6) (hU : dp < 6 → OKF n t u llT FU GU (dp + 1) (2 * (6 - dp) + 4) (240 + 10 * (6 - dp) + 2)) (hC : dp < 6 → OKF n t u llT FC GC (dp + 1) (2 * (6 - dp) + 4) (240 + 10 * (6 - dp) + 2)) : OKF n t u llT (g_X1_readsUnit FC FO FM FU) (g_X12_unit GC GA GO GU) dp (2 * (6 - dp) + 4) (240 + 10 * (6 - dp) + 3) := by
  intro a s s' tx lc code value codes ha hs hs' htx hc
  obtain ⟨a1, c, s1, s2, s3, s4, s5, s6, s7⟩ := sg_c hn h ha
  have hcb : c = mI 1 ∨ ∃ b, b ≤ 255 ∧ c = nI b ∧ a1 < n := by
    rcases s7 with ⟨ec, _⟩ | ⟨b, b0, b1, b2, ec, hb, _⟩
    · exact Or.inl ec
    · exact Or.inr ⟨b, b1, ec, hb⟩
  by_cases q33 : c = nI 33
  · subst q33
    have hlt : a1 < n := by
      rcases hcb with e | ⟨_, _, _, e⟩
      · exact absurd e (nI_nm (by omega))
      · exact e
    rcases Nat.lt_or_ge dp 6 with q6 | q6
    · rcases hU q6 (a1 + 1) s s' tx lc code value codes (by omega) (by omega) (by omega) htx hc with ⟨L, a2, hh, g1, g2, g3, g4, g5, g6, g7⟩ | ⟨a2, c2, x1, x2, p, q, code2, value2, codes2, g1, g2, g3, g4, g5, g6, g7⟩
      · have e2 := ap2 (f := cs) (r := lc) (o := s) (o1 := s + L.length) (A := L) (x := (9, 0)) (v := mI 11) rfl (by decide)
        have e3 := ap2 (f := tc) (r := code) (o := 520 * tx + s') (o1 := 520 * tx + (s' + L.length)) (A := L) (x := (9, 0)) (v := nI 9) (by omega) rfl
        have e4 := ap2 (f := tv) (r := value) (o := 520 * tx + s') (o1 := 520 * tx + (s' + L.length)) (A := L) (x := (9, 0)) (v := nI 0) (by omega) rfl
        have hl := len2 (A := L) (x := (9, 0))
        refine Or.inl ⟨L ++ [(9, 0)], a2, hh, by omega, g2, by omega, Ex.nt g4, by omega, ?_, ?_⟩
        · simp (disch := omega) only [g_X1_readsUnit, b_X1_readsUnit_0, b_X1_readsUnit_42, s3, g6, putX, e2, hl, neg_nI, lit_nI, nI_add, pk_mul, pk_sub, nI_clamp, inB_nI, gd_true, bnd_def, nI_leI, nI_ltI, nI_eq, nI_mI, mI_nI, nle_T, nle_F, nlt_T, nlt_F, neq_T, neq_F, ↓reduceIte, Nat.add_zero, Nat.zero_add, Nat.mul_zero, Nat.reduceAdd, Nat.reduceMul, Nat.reduceSub, ob1_e, ob2_e, ob3_e, ob4_e, ob6_e]
          rw [show s + L.length + 1 = s + (L.length + 1) by omega]
        · have hp := putY (code := ap tc code (520 * tx + s') L) (value := ap tv value (520 * tx + s') L) (codes := upd codes tx (nI (s' + L.length))) (k := nI 9) (v := nI 0) htx (show s' + L.length < 520 by omega) (upd_y rfl)
          rw [e3, e4, upd_upd] at hp
          simp (disch := omega) only [g_X12_unit, b_X12_unit_0, s4, f_X12_opens, b_X12_opens_0, b_X12_opens_13, g7, hp, hl, Nat.add_sub_cancel, ob3_e, neg_nI, lit_nI, nI_add, pk_mul, pk_sub, nI_clamp, inB_nI, gd_true, bnd_def, nI_leI, nI_ltI, nI_eq, nI_mI, mI_nI, nle_T, nle_F, nlt_T, nlt_F, neq_T, neq_F, ↓reduceIte, Nat.add_zero, Nat.zero_add, Nat.mul_zero, Nat.reduceAdd, Nat.reduceMul, Nat.reduceSub, ob1_e, ob2_e, ob3_e, ob4_e, ob6_e]
          rw [show s' + L.length + 1 = s' + (L.length + 1) by omega]
      · have hp := putY (code := code2) (value := value2) (codes := codes2) (k := nI 9) (v := nI 0) htx (show c2 < 520 by omega) g4
        refine Or.inr ⟨a2, c2 + 1, x1, x2, p, q - nI 1, upd code2 (520 * tx + c2) (nI 9), upd value2 (520 * tx + c2) (nI 0), upd codes2 tx (nI (c2 + 1)), g1, ?_, ?_, upd_y rfl, by omega, fun i hi => ?_, fun i hi => ?_⟩
        · simp (disch := omega) only [g_X1_readsUnit, b_X1_readsUnit_0, b_X1_readsUnit_42, s3, g2, neg_nI, lit_nI, nI_add, pk_mul, pk_sub, nI_clamp, inB_nI, gd_true, bnd_def, nI_leI, nI_ltI, nI_eq, nI_mI, mI_nI, nle_T, nle_F, nlt_T, nlt_F, neq_T, neq_F, ↓reduceIte, Nat.add_zero, Nat.zero_add, Nat.mul_zero, Nat.reduceAdd, Nat.reduceMul, Nat.reduceSub, ob1_e, ob2_e, ob3_e, ob4_e, ob6_e]
        · simp (disch := omega) only [g_X12_unit, b_X12_unit_0, s4, f_X12_opens, b_X12_opens_0, b_X12_opens_13, g3, hp, ob3_e, neg_nI, lit_nI, nI_add, pk_mul, pk_sub, nI_clamp, inB_nI, gd_true, bnd_def, nI_leI, nI_ltI, nI_eq, nI_mI, mI_nI, nle_T, nle_F, nlt_T, nlt_F, neq_T, neq_F, ↓reduceIte, Nat.add_zero, Nat.zero_add, Nat.mul_zero, Nat.reduceAdd, Nat.reduceMul, Nat.reduceSub, ob1_e, ob2_e, ob3_e, ob4_e, ob6_e]
        · obtain ⟨w1, w2⟩ := g6 i hi
          rw [upd_n (by omega), upd_n (by omega), w1, w2]
          exact ⟨rfl, rfl⟩
        · rw [upd_n hi, g7 i hi]
    · obtain rfl : dp = 6 := by omega
      refine Or.inr ⟨a1, s', nI s, lc, nI (a1 + 1), nI 7, code, value, codes, s2, ?_, ?_, hc, by omega, fun _ _ => ⟨rfl, rfl⟩, fun _ _ => rfl⟩
      · simp (disch := omega) only [g_X1_readsUnit, b_X1_readsUnit_0, b_X1_readsUnit_42, s3, neg_nI, lit_nI, nI_add, pk_mul, pk_sub, nI_clamp, inB_nI, gd_true, bnd_def, nI_leI, nI_ltI, nI_eq, nI_mI, mI_nI, nle_T, nle_F, nlt_T, nlt_F, neq_T, neq_F, ↓reduceIte, Nat.add_zero, Nat.zero_add, Nat.mul_zero, Nat.reduceAdd, Nat.reduceMul, Nat.reduceSub, ob1_e, ob2_e, ob3_e, ob4_e, ob6_e]
      · simp (disch := omega) only [g_X12_unit, b_X12_unit_0, s4, f_X12_opens, b_X12_opens_0, b_X12_opens_13, bad_n, ob3_e, neg_nI, lit_nI, nI_add, pk_mul, pk_sub, nI_clamp, inB_nI, gd_true, bnd_def, nI_leI, nI_ltI, nI_eq, nI_mI, mI_nI, nle_T, nle_F, nlt_T, nlt_F, neq_T, neq_F, ↓reduceIte, Nat.add_zero, Nat.zero_add, Nat.mul_zero, Nat.reduceAdd, Nat.reduceMul, Nat.reduceSub, ob1_e, ob2_e, ob3_e, ob4_e, ob6_e]
  by_cases q40 : c = nI 40
  · subst q40
    have hlt : a1 < n := by
      rcases hcb with e | ⟨_, _, _, e⟩
      · exact absurd e (nI_nm (by omega))
      · exact e
    rcases Nat.lt_or_ge dp 6 with q6 | q6
    · rcases hC q6 (a1 + 1) s s' tx lc code value codes (by omega) (by omega) (by omega) htx hc with ⟨L, a2, hh, g1, g2, g3, g4, g5, g6, g7⟩ | ⟨a2, c2, x1, x2, p, q, code2, value2, codes2, g1, g2, g3, g4, g5, g6, g7⟩
      · obtain ⟨a3, c3, r1, r2, r3, r4, r5, r6, r7⟩ := sg_c hn h g2
        by_cases e41 : c3 = nI 41
        · subst e41
          have ha3 : a3 < n := by
            rcases r7 with ⟨e, _⟩ | ⟨_, _, _, _, _, e, _⟩
            · exact absurd e (nI_nm (by omega))
            · exact e
          refine Or.inl ⟨L, a3 + 1, hh, by omega, by omega, by omega, g4, g5, ?_, ?_⟩
          · simp (disch := omega) only [g_X1_readsUnit, b_X1_readsUnit_0, b_X1_readsUnit_42, s3, g6, f_X10_take, b_X10_take_0, r3, neg_nI, lit_nI, nI_add, pk_mul, pk_sub, nI_clamp, inB_nI, gd_true, bnd_def, nI_leI, nI_ltI, nI_eq, nI_mI, mI_nI, nle_T, nle_F, nlt_T, nlt_F, neq_T, neq_F, ↓reduceIte, Nat.add_zero, Nat.zero_add, Nat.mul_zero, Nat.reduceAdd, Nat.reduceMul, Nat.reduceSub, ob1_e, ob2_e, ob3_e, ob4_e, ob6_e]
          · simp (disch := omega) only [g_X12_unit, b_X12_unit_0, s4, f_X12_opens, b_X12_opens_0, b_X12_opens_13, g7, f_X12_closes, b_X12_closes_0, b_X12_closes_20, r4, Nat.add_sub_cancel, ob3_e, neg_nI, lit_nI, nI_add, pk_mul, pk_sub, nI_clamp, inB_nI, gd_true, bnd_def, nI_leI, nI_ltI, nI_eq, nI_mI, mI_nI, nle_T, nle_F, nlt_T, nlt_F, neq_T, neq_F, ↓reduceIte, Nat.add_zero, Nat.zero_add, Nat.mul_zero, Nat.reduceAdd, Nat.reduceMul, Nat.reduceSub, ob1_e, ob2_e, ob3_e, ob4_e, ob6_e]
        · refine Or.inr ⟨a3, s' + L.length, nI (s + L.length), ap cs lc s L, nI (a3 + 1), nI dp, ap tc code (520 * tx + s') L, ap tv value (520 * tx + s') L, upd codes tx (nI (s' + L.length)), r2, ?_, ?_, upd_y rfl, by omega, fun i hi => ⟨ap_out _ _ _ _ (by omega), ap_out _ _ _ _ (by omega)⟩, fun i hi => upd_n hi⟩
          · simp (disch := omega) only [g_X1_readsUnit, b_X1_readsUnit_0, b_X1_readsUnit_42, s3, g6, f_X10_take, b_X10_take_0, r3, e41, neg_nI, lit_nI, nI_add, pk_mul, pk_sub, nI_clamp, inB_nI, gd_true, bnd_def, nI_leI, nI_ltI, nI_eq, nI_mI, mI_nI, nle_T, nle_F, nlt_T, nlt_F, neq_T, neq_F, ↓reduceIte, Nat.add_zero, Nat.zero_add, Nat.mul_zero, Nat.reduceAdd, Nat.reduceMul, Nat.reduceSub, ob1_e, ob2_e, ob3_e, ob4_e, ob6_e]
          · simp (disch := omega) only [g_X12_unit, b_X12_unit_0, s4, f_X12_opens, b_X12_opens_0, b_X12_opens_13, g7, f_X12_closes, b_X12_closes_0, b_X12_closes_20, r4, e41, bad_n, Nat.add_sub_cancel, ob3_e, neg_nI, lit_nI, nI_add, pk_mul, pk_sub, nI_clamp, inB_nI, gd_true, bnd_def, nI_leI, nI_ltI, nI_eq, nI_mI, mI_nI, nle_T, nle_F, nlt_T, nlt_F, neq_T, neq_F, ↓reduceIte, Nat.add_zero, Nat.zero_add, Nat.mul_zero, Nat.reduceAdd, Nat.reduceMul, Nat.reduceSub, ob1_e, ob2_e, ob3_e, ob4_e, ob6_e]
      · refine Or.inr ⟨a2, c2, x1, x2, p + nI 1, q - nI 1, code2, value2, codes2, g1, ?_, ?_, g4, by omega, g6, g7⟩
        · simp (disch := omega) only [g_X1_readsUnit, b_X1_readsUnit_0, b_X1_readsUnit_42, s3, g2, neg_nI, lit_nI, nI_add, pk_mul, pk_sub, nI_clamp, inB_nI, gd_true, bnd_def, nI_leI, nI_ltI, nI_eq, nI_mI, mI_nI, nle_T, nle_F, nlt_T, nlt_F, neq_T, neq_F, ↓reduceIte, Nat.add_zero, Nat.zero_add, Nat.mul_zero, Nat.reduceAdd, Nat.reduceMul, Nat.reduceSub, ob1_e, ob2_e, ob3_e, ob4_e, ob6_e]
        · simp (disch := omega) only [g_X12_unit, b_X12_unit_0, s4, f_X12_opens, b_X12_opens_0, b_X12_opens_13, g3, f_X12_closes, b_X12_closes_0, b_X12_closes_20, ob3_e, neg_nI, lit_nI, nI_add, pk_mul, pk_sub, nI_clamp, inB_nI, gd_true, bnd_def, nI_leI, nI_ltI, nI_eq, nI_mI, mI_nI, nle_T, nle_F, nlt_T, nlt_F, neq_T, neq_F, ↓reduceIte, Nat.add_zero, Nat.zero_add, Nat.mul_zero, Nat.reduceAdd, Nat.reduceMul, Nat.reduceSub, ob1_e, ob2_e, ob3_e, ob4_e, ob6_e]
    · obtain rfl : dp = 6 := by omega
      refine Or.inr ⟨a1, s', nI s, lc, nI (a1 + 1), nI 7, code, value, codes, s2, ?_, ?_, hc, by omega, fun _ _ => ⟨rfl, rfl⟩, fun _ _ => rfl⟩
      · simp (disch := omega) only [g_X1_readsUnit, b_X1_readsUnit_0, b_X1_readsUnit_42, s3, neg_nI, lit_nI, nI_add, pk_mul, pk_sub, nI_clamp, inB_nI, gd_true, bnd_def, nI_leI, nI_ltI, nI_eq, nI_mI, mI_nI, nle_T, nle_F, nlt_T, nlt_F, neq_T, neq_F, ↓reduceIte, Nat.add_zero, Nat.zero_add, Nat.mul_zero, Nat.reduceAdd, Nat.reduceMul, Nat.reduceSub, ob1_e, ob2_e, ob3_e, ob4_e, ob6_e]
      · simp (disch := omega) only [g_X12_unit, b_X12_unit_0, s4, f_X12_opens, b_X12_opens_0, b_X12_opens_13, bad_n, ob3_e, neg_nI, lit_nI, nI_add, pk_mul, pk_sub, nI_clamp, inB_nI, gd_true, bnd_def, nI_leI, nI_ltI, nI_eq, nI_mI, mI_nI, nle_T, nle_F, nlt_T, nlt_F, neq_T, neq_F, ↓reduceIte, Nat.add_zero, Nat.zero_add, Nat.mul_zero, Nat.reduceAdd, Nat.reduceMul, Nat.reduceSub, ob1_e, ob2_e, ob3_e, ob4_e, ob6_e]
  rcases sum60 hn h tb hd a1 s s' tx lc code value codes s2 (by omega) (by omega) htx hc with ⟨L, a2, hh, g1, g2, g3, g4, g5, g6, g7⟩ | ⟨a2, c2, x1, x2, p, q, code2, value2, codes2, g1, g2, g3, g4, g5, g6, g7⟩
  · rcases cmp_o hn h tb hd a a2 s s' tx hh lc code value codes L g2 (by omega) (by omega) hs hs' htx hc g4 g5 with ⟨L', a3, h3, w1, w2, w3, w4, w5, w6, w7⟩ | ⟨a3, c3, y1, y2, p, q, code3, value3, codes3, w1, w2, w3, w4, w5, w6, w7⟩
    · refine Or.inl ⟨L', a3, h3, w1, w2, w3, w4, w5, ?_, ?_⟩
      · simp (disch := omega) only [g_X1_readsUnit, b_X1_readsUnit_0, s3, q33, q40, g6, w6, neg_nI, lit_nI, nI_add, pk_mul, pk_sub, nI_clamp, inB_nI, gd_true, bnd_def, nI_leI, nI_ltI, nI_eq, nI_mI, mI_nI, nle_T, nle_F, nlt_T, nlt_F, neq_T, neq_F, ↓reduceIte, Nat.add_zero, Nat.zero_add, Nat.mul_zero, Nat.reduceAdd, Nat.reduceMul, Nat.reduceSub, ob1_e, ob2_e, ob3_e, ob4_e, ob6_e]
      · simp (disch := omega) only [g_X12_unit, b_X12_unit_0, s4, q33, q40, g7, w7, neg_nI, lit_nI, nI_add, pk_mul, pk_sub, nI_clamp, inB_nI, gd_true, bnd_def, nI_leI, nI_ltI, nI_eq, nI_mI, mI_nI, nle_T, nle_F, nlt_T, nlt_F, neq_T, neq_F, ↓reduceIte, Nat.add_zero, Nat.zero_add, Nat.mul_zero, Nat.reduceAdd, Nat.reduceMul, Nat.reduceSub, ob1_e, ob2_e, ob3_e, ob4_e, ob6_e]
    · refine Or.inr ⟨a3, c3, y1, y2, p, q, code3, value3, codes3, w1, ?_, ?_, w4, w5, w6, w7⟩
      · simp (disch := omega) only [g_X1_readsUnit, b_X1_readsUnit_0, s3, q33, q40, g6, w2, neg_nI, lit_nI, nI_add, pk_mul, pk_sub, nI_clamp, inB_nI, gd_true, bnd_def, nI_leI, nI_ltI, nI_eq, nI_mI, mI_nI, nle_T, nle_F, nlt_T, nlt_F, neq_T, neq_F, ↓reduceIte, Nat.add_zero, Nat.zero_add, Nat.mul_zero, Nat.reduceAdd, Nat.reduceMul, Nat.reduceSub, ob1_e, ob2_e, ob3_e, ob4_e, ob6_e]
      · simp (disch := omega) only [g_X12_unit, b_X12_unit_0, s4, q33, q40, g7, w3, neg_nI, lit_nI, nI_add, pk_mul, pk_sub, nI_clamp, inB_nI, gd_true, bnd_def, nI_leI, nI_ltI, nI_eq, nI_mI, mI_nI, nle_T, nle_F, nlt_T, nlt_F, neq_T, neq_F, ↓reduceIte, Nat.add_zero, Nat.zero_add, Nat.mul_zero, Nat.reduceAdd, Nat.reduceMul, Nat.reduceSub, ob1_e, ob2_e, ob3_e, ob4_e, ob6_e]
  · refine Or.inr ⟨a2, c2, x1, x2, p, q, code2, value2, codes2, g1, ?_, ?_, g4, by omega, g6, g7⟩
    · simp (disch := omega) only [g_X1_readsUnit, b_X1_readsUnit_0, s3, q33, q40, g2, neg_nI, lit_nI, nI_add, pk_mul, pk_sub, nI_clamp, inB_nI, gd_true, bnd_def, nI_leI, nI_ltI, nI_eq, nI_mI, mI_nI, nle_T, nle_F, nlt_T, nlt_F, neq_T, neq_F, ↓reduceIte, Nat.add_zero, Nat.zero_add, Nat.mul_zero, Nat.reduceAdd, Nat.reduceMul, Nat.reduceSub, ob1_e, ob2_e, ob3_e, ob4_e, ob6_e]
    · simp (disch := omega) only [g_X12_unit, b_X12_unit_0, s4, q33, q40, g3, neg_nI, lit_nI, nI_add, pk_mul, pk_sub, nI_clamp, inB_nI, gd_true, bnd_def, nI_leI, nI_ltI, nI_eq, nI_mI, mI_nI, nle_T, nle_F, nlt_T, nlt_F, neq_T, neq_F, ↓reduceIte, Nat.add_zero, Nat.zero_add, Nat.mul_zero, Nat.reduceAdd, Nat.reduceMul, Nat.reduceSub, ob1_e, ob2_e, ob3_e, ob4_e, ob6_e]
end CO
end
section
/-! conditions by both: and, or -/
section CP
variable {n : Nat} {t u llT : Nat → Int32} {FC FO FM FU : FX} {GC GA GO GU : FY}
theorem and_w : IDW n u (g_X12_goOnAnd GC GA GO GU) := by
  intro tx w p q code value codes hw
  obtain ⟨k, ef⟩ : ∃ k, fu = k + 1 := ⟨fu - 1, by have := fu_le; omega⟩
  have e : ∀ k, f_X12_goOnAnd_0 GC GA GO GU (nI n) (nI tx) u (k + 1) p (nI w) q code value codes = some (p, nI w, q, code, value, codes) := by
    intro k
    simp (disch := omega) only [f_X12_goOnAnd_0, b_X12_goOnAnd_0, neg_nI, lit_nI, nI_add, pk_mul, pk_sub, nI_clamp, inB_nI, gd_true, bnd_def, nI_leI, nI_ltI, nI_eq, nI_mI, mI_nI, nle_T, nle_F, nlt_T, nlt_F, neq_T, neq_F, ↓reduceIte, Nat.add_zero, Nat.zero_add, Nat.mul_zero, Nat.reduceAdd, Nat.reduceMul, Nat.reduceSub, ob1_e, ob2_e, ob3_e, ob4_e, ob6_e]
  rw [← e k, ← ef]
  rfl
theorem or_w : IDW n u (g_X12_goOnOr GC GA GO GU) := by
  intro tx w p q code value codes hw
  obtain ⟨k, ef⟩ : ∃ k, fu = k + 1 := ⟨fu - 1, by have := fu_le; omega⟩
  have e : ∀ k, f_X12_goOnOr_0 GC GA GO GU (nI n) (nI tx) u (k + 1) p (nI w) q code value codes = some (p, nI w, q, code, value, codes) := by
    intro k
    simp (disch := omega) only [f_X12_goOnOr_0, b_X12_goOnOr_0, neg_nI, lit_nI, nI_add, pk_mul, pk_sub, nI_clamp, inB_nI, gd_true, bnd_def, nI_leI, nI_ltI, nI_eq, nI_mI, mI_nI, nle_T, nle_F, nlt_T, nlt_F, neq_T, neq_F, ↓reduceIte, Nat.add_zero, Nat.zero_add, Nat.mul_zero, Nat.reduceAdd, Nat.reduceMul, Nat.reduceSub, ob1_e, ob2_e, ob3_e, ob4_e, ob6_e]
  rw [← e k, ← ef]
  rfl
theorem mu_l (hn : n ≤ 240) (h : RT n t u) {dp h0 B0 a0 s s' tx : Nat} {lc code value codes : Nat → Int32} (hI : OKF n t u llT FU GU dp h0 B0) (hB : B0 ≤ 400) (hB2 : 240 ≤ B0) (hd : dp ≤ 6) (hs : s ≤ a0) (hs' : s' ≤ a0) (htx : tx ≤ 4) (hc : codes tx = nI s') : ∀ (j a v2 : Nat) (A : List Tok) (hA : Nat), n < a + j → a ≤ n → a0 < a → a0 + A.length ≤ a → v2 < a → Ex A hA → hA ≤ h0 + 1 → ∀ kx ky, j ≤ kx → j < ky → OUTL n tx dp s s' a0 (h0 + 1) (B0 + 1) lc code value codes (f_X1_readsMoreUnits_2 FC FO FM FU (nI n) t llT kx (nI a) (nI (s + A.length)) (ap cs lc s A) (nI dp) (nI v2)) (f_X12_goOnAnd_0 GC GA GO GU (nI n) (nI tx) u ky (nI a) (mI 1) (nI dp) (ap tc code (520 * tx + s') A) (ap tv value (520 * tx + s') A) (upd codes tx (nI (s' + A.length))))
  | 0, a, v2, A, hA, hj, ha, h1, h2, h3, h4, h5, kx, ky, hkx, hky => by omega
  | j + 1, a, v2, A, hA, hj, ha, h1, h2, h3, h4, h5, kx, ky, hkx, hky => by
    obtain ⟨kx, rfl⟩ : ∃ k, kx = k + 1 := ⟨kx - 1, by omega⟩
    obtain ⟨ky, rfl⟩ : ∃ k, ky = k + 1 + 1 := ⟨ky - 2, by omega⟩
    obtain ⟨a1, c, s1, s2, s3, s4, s5, s6, s7⟩ := sg_c hn h ha
    have ux : ∀ x1 x2 x3 x4 x5, f_X1_readsMoreUnits_2 FC FO FM FU (nI n) t llT (kx + 1) x1 x2 x3 x4 x5 = b_X1_readsMoreUnits_2 FC FO FM FU (nI n) t llT (f_X1_readsMoreUnits_2 FC FO FM FU (nI n) t llT kx) x1 x2 x3 x4 x5 := fun _ _ _ _ _ => rfl
    have uy : ∀ k x1 x2 x3 x4 x5 x6, f_X12_goOnAnd_0 GC GA GO GU (nI n) (nI tx) u (k + 1) x1 x2 x3 x4 x5 x6 = b_X12_goOnAnd_0 GC GA GO GU (nI n) (nI tx) u (f_X12_goOnAnd_0 GC GA GO GU (nI n) (nI tx) u k) x1 x2 x3 x4 x5 x6 := fun _ _ _ _ _ _ _ => rfl
    by_cases q38 : c = nI 38
    · subst q38
      have hlt : a1 < n := by
        rcases s7 with ⟨e, _⟩ | ⟨_, _, _, _, _, e, _⟩
        · exact absurd e (nI_nm (by omega))
        · exact e
      have hX : f_X1_readsMoreUnits_2 FC FO FM FU (nI n) t llT (kx + 1) (nI a) (nI (s + A.length)) (ap cs lc s A) (nI dp) (nI v2) = ob4 (FU (nI n) t llT (nI (a1 + 1)) (nI (s + A.length)) (ap cs lc s A) (nI dp)) fun r_4 at5 s6' c7 => if r_4 = nI 0 then some (nI 0, at5, s6', c7) else ob3 (f_X1_put s6' c7 (mI 9)) fun r_9 s10 c11 => if r_9 = nI 0 then some (nI 0, at5, s10, c11) else f_X1_readsMoreUnits_2 FC FO FM FU (nI n) t llT kx at5 s10 c11 (nI dp) (nI (v2 + 1)) := by
        rw [ux]; simp (disch := omega) only [b_X1_readsMoreUnits_2, f_X10_take, b_X10_take_0, s3, neg_nI, lit_nI, nI_add, pk_mul, pk_sub, nI_clamp, inB_nI, gd_true, bnd_def, nI_leI, nI_ltI, nI_eq, nI_mI, mI_nI, nle_T, nle_F, nlt_T, nlt_F, neq_T, neq_F, ↓reduceIte, Nat.add_zero, Nat.zero_add, Nat.mul_zero, Nat.reduceAdd, Nat.reduceMul, Nat.reduceSub, ob1_e, ob2_e, ob3_e, ob4_e, ob6_e]
      have hY : f_X12_goOnAnd_0 GC GA GO GU (nI n) (nI tx) u (ky + 1 + 1) (nI a) (mI 1) (nI dp) (ap tc code (520 * tx + s') A) (ap tv value (520 * tx + s') A) (upd codes tx (nI (s' + A.length))) = ob6 (GU (nI n) (nI tx) u (nI (a1 + 1)) (mI 1) (nI dp) (ap tc code (520 * tx + s') A) (ap tv value (520 * tx + s') A) (upd codes tx (nI (s' + A.length)))) fun p w q c2 v3 cc => ob3 (f_X12_put (nI tx) c2 v3 cc (nI 10) (nI 0)) fun c12 v13 cc14 => f_X12_goOnAnd_0 GC GA GO GU (nI n) (nI tx) u (ky + 1) p w q c12 v13 cc14 := by
        rw [uy]; simp (disch := omega) only [b_X12_goOnAnd_0, s4, neg_nI, lit_nI, nI_add, pk_mul, pk_sub, nI_clamp, inB_nI, gd_true, bnd_def, nI_leI, nI_ltI, nI_eq, nI_mI, mI_nI, nle_T, nle_F, nlt_T, nlt_F, neq_T, neq_F, ↓reduceIte, Nat.add_zero, Nat.zero_add, Nat.mul_zero, Nat.reduceAdd, Nat.reduceMul, Nat.reduceSub, ob1_e, ob2_e, ob3_e, ob4_e, ob6_e]
      rw [hX, hY]
      rcases hI (a1 + 1) (s + A.length) (s' + A.length) tx (ap cs lc s A) (ap tc code (520 * tx + s') A) (ap tv value (520 * tx + s') A) (upd codes tx (nI (s' + A.length))) (by omega) (by omega) (by omega) htx (upd_y rfl) with ⟨L, a2, hh, g1, g2, g3, g4, g5, g6, g7⟩ | ⟨a2, c2, x1, x2, p, q, code2, value2, codes2, g1, g2, g3, g4, g5, g6, g7⟩
      · have e2 := ap3 (f := cs) (r := lc) (o := s) (o1 := s + A.length) (o2 := s + A.length + L.length) (A := A) (B := L) (x := (10, 0)) (v := mI 9) rfl rfl (by decide)
        have e3 := ap3 (f := tc) (r := code) (o := 520 * tx + s') (o1 := 520 * tx + (s' + A.length)) (o2 := 520 * tx + (s' + A.length + L.length)) (A := A) (B := L) (x := (10, 0)) (v := nI 10) (by omega) (by omega) rfl
        have e4 := ap3 (f := tv) (r := value) (o := 520 * tx + s') (o1 := 520 * tx + (s' + A.length)) (o2 := 520 * tx + (s' + A.length + L.length)) (A := A) (B := L) (x := (10, 0)) (v := nI 0) (by omega) (by omega) rfl
        have hl := len3 (A := A) (B := L) (x := (10, 0))
        have ih := mu_l (lc := lc) (code := code) (value := value) (codes := codes) hn h hI hB hB2 hd hs hs' htx hc j a2 (v2 + 1) (A ++ (L ++ [(10, 0)])) (max hA (hh + 1)) (by omega) g2 (by omega) (by omega) (by omega) (Ex.bin (by omega) h4 g4) (by omega) kx (ky + 1) (by omega) (by omega)
        rw [hl] at ih
        rw [g6, g7, ob4_e, ob6_e, if_neg (by decide), putX (by omega), ob3_e, if_neg (by decide), e2, putY htx (show s' + A.length + L.length < 520 by omega) (upd_y rfl), ob3_e, e3, e4, upd_upd, upd_upd, show s + A.length + L.length + 1 = s + (A.length + L.length + 1) by omega, show s' + A.length + L.length + 1 = s' + (A.length + L.length + 1) by omega]
        exact ih
      · refine Or.inr ⟨a2, c2 + 1, x1, x2, p, q, upd code2 (520 * tx + c2) (nI 10), upd value2 (520 * tx + c2) (nI 0), upd codes2 tx (nI (c2 + 1)), g1, ?_, ?_, upd_y rfl, by omega, fun i hi => ?_, fun i hi => ?_⟩
        · rw [g2, ob4_e, if_pos rfl]
        · rw [g3, ob6_e, putY htx (show c2 < 520 by omega) g4, ob3_e, uy]
          simp (disch := omega) only [b_X12_goOnAnd_0, neg_nI, lit_nI, nI_add, pk_mul, pk_sub, nI_clamp, inB_nI, gd_true, bnd_def, nI_leI, nI_ltI, nI_eq, nI_mI, mI_nI, nle_T, nle_F, nlt_T, nlt_F, neq_T, neq_F, ↓reduceIte, Nat.add_zero, Nat.zero_add, Nat.mul_zero, Nat.reduceAdd, Nat.reduceMul, Nat.reduceSub, ob1_e, ob2_e, ob3_e, ob4_e, ob6_e]
        · obtain ⟨w1, w2⟩ := g6 i hi
          have w3 : (i < 520 * tx + s' ∨ 520 * tx + s' + A.length ≤ i) := by omega
          rw [upd_n (by omega), upd_n (by omega), w1, w2, ap_out _ _ _ _ w3, ap_out _ _ _ _ w3]
          exact ⟨rfl, rfl⟩
        · rw [upd_n hi, g7 i hi, upd_n hi]
    · refine Or.inl ⟨A, a1, hA, by omega, s2, by omega, h4, h5, ?_, ?_⟩
      · rw [ux]; simp (disch := omega) only [b_X1_readsMoreUnits_2, f_X10_take, b_X10_take_0, s3, q38, neg_nI, lit_nI, nI_add, pk_mul, pk_sub, nI_clamp, inB_nI, gd_true, bnd_def, nI_leI, nI_ltI, nI_eq, nI_mI, mI_nI, nle_T, nle_F, nlt_T, nlt_F, neq_T, neq_F, ↓reduceIte, Nat.add_zero, Nat.zero_add, Nat.mul_zero, Nat.reduceAdd, Nat.reduceMul, Nat.reduceSub, ob1_e, ob2_e, ob3_e, ob4_e, ob6_e]
      · rw [uy]; simp (disch := omega) only [b_X12_goOnAnd_0, s4, q38, neg_nI, lit_nI, nI_add, pk_mul, pk_sub, nI_clamp, inB_nI, gd_true, bnd_def, nI_leI, nI_ltI, nI_eq, nI_mI, mI_nI, nle_T, nle_F, nlt_T, nlt_F, neq_T, neq_F, ↓reduceIte, Nat.add_zero, Nat.zero_add, Nat.mul_zero, Nat.reduceAdd, Nat.reduceMul, Nat.reduceSub, ob1_e, ob2_e, ob3_e, ob4_e, ob6_e]
theorem mu_o (hn : n ≤ 240) (h : RT n t u) {dp h0 B0 : Nat} (hI : OKF n t u llT FU GU dp h0 B0) (hB : B0 ≤ 400) (hB2 : 240 ≤ B0) (hd : dp ≤ 6) : OKA n t u llT (g_X1_readsMoreUnits FC FO FM FU) (g_X12_goOnAnd GC GA GO GU) dp (h0 + 1) (h0 + 1) (B0 + 1) := by
  intro a0 a s s' tx hA lc code value codes A ha h0' h1 hs hs' htx hc eA hhA
  have hf := fu_le
  exact mu_l hn h hI hB hB2 hd hs hs' htx hc (n + 1) a 0 A hA (by omega) ha h0' h1 (by omega) eA hhA fu fu (by omega) (by omega)
theorem mt_l (hn : n ≤ 240) (h : RT n t u) {dp h0 B0 a0 s s' tx : Nat} {lc code value codes : Nat → Int32} (hI : OKF n t u llT FU GU dp h0 B0) (hM : OKA n t u llT FM GA dp (h0 + 1) (h0 + 1) (B0 + 1)) (hW : IDW n u GA) (hB : B0 ≤ 400) (hB2 : 240 ≤ B0) (hd : dp ≤ 6) (hs : s ≤ a0) (hs' : s' ≤ a0) (htx : tx ≤ 4) (hc : codes tx = nI s') : ∀ (j a v2 : Nat) (A : List Tok) (hA : Nat), n < a + j → a ≤ n → a0 < a → a0 + A.length ≤ a → v2 < a → Ex A hA → hA ≤ h0 + 2 → ∀ kx ky, j ≤ kx → j < ky → OUTL n tx dp s s' a0 (h0 + 2) (B0 + 2) lc code value codes (f_X1_readsMoreTruths_2 FC FO FM FU (nI n) t llT kx (nI a) (nI (s + A.length)) (ap cs lc s A) (nI dp) (nI v2)) (f_X12_goOnOr_0 GC GA GO GU (nI n) (nI tx) u ky (nI a) (mI 1) (nI dp) (ap tc code (520 * tx + s') A) (ap tv value (520 * tx + s') A) (upd codes tx (nI (s' + A.length))))
  | 0, a, v2, A, hA, hj, ha, h1, h2, h3, h4, h5, kx, ky, hkx, hky => by omega
  | j + 1, a, v2, A, hA, hj, ha, h1, h2, h3, h4, h5, kx, ky, hkx, hky => by
    obtain ⟨kx, rfl⟩ : ∃ k, kx = k + 1 := ⟨kx - 1, by omega⟩
    obtain ⟨ky, rfl⟩ : ∃ k, ky = k + 1 + 1 := ⟨ky - 2, by omega⟩
    obtain ⟨a1, c, s1, s2, s3, s4, s5, s6, s7⟩ := sg_c hn h ha
    have ux : ∀ x1 x2 x3 x4 x5, f_X1_readsMoreTruths_2 FC FO FM FU (nI n) t llT (kx + 1) x1 x2 x3 x4 x5 = b_X1_readsMoreTruths_2 FC FO FM FU (nI n) t llT (f_X1_readsMoreTruths_2 FC FO FM FU (nI n) t llT kx) x1 x2 x3 x4 x5 := fun _ _ _ _ _ => rfl
    have uy : ∀ k x1 x2 x3 x4 x5 x6, f_X12_goOnOr_0 GC GA GO GU (nI n) (nI tx) u (k + 1) x1 x2 x3 x4 x5 x6 = b_X12_goOnOr_0 GC GA GO GU (nI n) (nI tx) u (f_X12_goOnOr_0 GC GA GO GU (nI n) (nI tx) u k) x1 x2 x3 x4 x5 x6 := fun _ _ _ _ _ _ _ => rfl
    by_cases q38 : c = nI 124
    · subst q38
      have hlt : a1 < n := by
        rcases s7 with ⟨e, _⟩ | ⟨_, _, _, _, _, e, _⟩
        · exact absurd e (nI_nm (by omega))
        · exact e
      have hX : f_X1_readsMoreTruths_2 FC FO FM FU (nI n) t llT (kx + 1) (nI a) (nI (s + A.length)) (ap cs lc s A) (nI dp) (nI v2) = ob4 (FU (nI n) t llT (nI (a1 + 1)) (nI (s + A.length)) (ap cs lc s A) (nI dp)) fun r_4 at5 s6' c7 => if r_4 = nI 0 then some (nI 0, at5, s6', c7) else ob4 (FM (nI n) t llT at5 s6' c7 (nI dp)) fun r_9 at10 s11 c12 => if r_9 = nI 0 then some (nI 0, at10, s11, c12) else ob3 (f_X1_put s11 c12 (mI 10)) fun r_14 s15 c16 => if r_14 = nI 0 then some (nI 0, at10, s15, c16) else f_X1_readsMoreTruths_2 FC FO FM FU (nI n) t llT kx at10 s15 c16 (nI dp) (nI (v2 + 1)) := by
        rw [ux]; simp (disch := omega) only [b_X1_readsMoreTruths_2, f_X10_take, b_X10_take_0, s3, neg_nI, lit_nI, nI_add, pk_mul, pk_sub, nI_clamp, inB_nI, gd_true, bnd_def, nI_leI, nI_ltI, nI_eq, nI_mI, mI_nI, nle_T, nle_F, nlt_T, nlt_F, neq_T, neq_F, ↓reduceIte, Nat.add_zero, Nat.zero_add, Nat.mul_zero, Nat.reduceAdd, Nat.reduceMul, Nat.reduceSub, ob1_e, ob2_e, ob3_e, ob4_e, ob6_e]
      have hY : f_X12_goOnOr_0 GC GA GO GU (nI n) (nI tx) u (ky + 1 + 1) (nI a) (mI 1) (nI dp) (ap tc code (520 * tx + s') A) (ap tv value (520 * tx + s') A) (upd codes tx (nI (s' + A.length))) = ob6 (GU (nI n) (nI tx) u (nI (a1 + 1)) (mI 1) (nI dp) (ap tc code (520 * tx + s') A) (ap tv value (520 * tx + s') A) (upd codes tx (nI (s' + A.length)))) fun p w q c2 v3 cc => ob6 (GA (nI n) (nI tx) u p w q c2 v3 cc) fun p w q c2 v3 cc => ob3 (f_X12_put (nI tx) c2 v3 cc (nI 11) (nI 0)) fun c12 v13 cc14 => f_X12_goOnOr_0 GC GA GO GU (nI n) (nI tx) u (ky + 1) p w q c12 v13 cc14 := by
        rw [uy]; simp (disch := omega) only [b_X12_goOnOr_0, s4, neg_nI, lit_nI, nI_add, pk_mul, pk_sub, nI_clamp, inB_nI, gd_true, bnd_def, nI_leI, nI_ltI, nI_eq, nI_mI, mI_nI, nle_T, nle_F, nlt_T, nlt_F, neq_T, neq_F, ↓reduceIte, Nat.add_zero, Nat.zero_add, Nat.mul_zero, Nat.reduceAdd, Nat.reduceMul, Nat.reduceSub, ob1_e, ob2_e, ob3_e, ob4_e, ob6_e]
      rw [hX, hY]
      have hbad : ∀ {B : Nat} {X : Option XT} {Y : Option YT} (hBB : B ≤ B0 + 1) {a2 c2 : Nat} {x1 : Int32} {x2 : Nat → Int32} {p q : Int32} {code2 value2 codes2 : Nat → Int32} (g1 : a2 ≤ n) (g2 : X = some (nI 0, nI a2, x1, x2)) (g3 : Y = ob3 (f_X12_put (nI tx) code2 value2 codes2 (nI 11) (nI 0)) fun c12 v13 cc14 => f_X12_goOnOr_0 GC GA GO GU (nI n) (nI tx) u (ky + 1) p (nI a2) q c12 v13 cc14) (g4 : codes2 tx = nI c2) (g5 : c2 ≤ B) (g6 : ∀ i, (i < 520 * tx ∨ 520 * tx + 520 ≤ i) → code2 i = ap tc code (520 * tx + s') A i ∧ value2 i = ap tv value (520 * tx + s') A i) (g7 : ∀ i, i ≠ tx → codes2 i = upd codes tx (nI (s' + A.length)) i), OUTL n tx dp s s' a0 (h0 + 2) (B0 + 2) lc code value codes X Y := by
        intro B X Y hBB a2 c2 x1 x2 p q code2 value2 codes2 g1 g2 g3 g4 g5 g6 g7
        refine Or.inr ⟨a2, c2 + 1, x1, x2, p, q, upd code2 (520 * tx + c2) (nI 11), upd value2 (520 * tx + c2) (nI 0), upd codes2 tx (nI (c2 + 1)), g1, g2, ?_, upd_y rfl, by omega, fun i hi => ?_, fun i hi => ?_⟩
        · rw [g3, putY htx (show c2 < 520 by omega) g4, ob3_e, uy]
          simp (disch := omega) only [b_X12_goOnOr_0, neg_nI, lit_nI, nI_add, pk_mul, pk_sub, nI_clamp, inB_nI, gd_true, bnd_def, nI_leI, nI_ltI, nI_eq, nI_mI, mI_nI, nle_T, nle_F, nlt_T, nlt_F, neq_T, neq_F, ↓reduceIte, Nat.add_zero, Nat.zero_add, Nat.mul_zero, Nat.reduceAdd, Nat.reduceMul, Nat.reduceSub, ob1_e, ob2_e, ob3_e, ob4_e, ob6_e]
        · obtain ⟨w1, w2⟩ := g6 i hi
          have w3 : (i < 520 * tx + s' ∨ 520 * tx + s' + A.length ≤ i) := by omega
          rw [upd_n (by omega), upd_n (by omega), w1, w2, ap_out _ _ _ _ w3, ap_out _ _ _ _ w3]
          exact ⟨rfl, rfl⟩
        · rw [upd_n hi, g7 i hi, upd_n hi]
      rcases hI (a1 + 1) (s + A.length) (s' + A.length) tx (ap cs lc s A) (ap tc code (520 * tx + s') A) (ap tv value (520 * tx + s') A) (upd codes tx (nI (s' + A.length))) (by omega) (by omega) (by omega) htx (upd_y rfl) with ⟨L, a2, hh, g1, g2, g3, g4, g5, g6, g7⟩ | ⟨a2, c2, x1, x2, p, q, code2, value2, codes2, g1, g2, g3, g4, g5, g6, g7⟩
      · rcases hM (a1 + 1) a2 (s + A.length) (s' + A.length) tx hh (ap cs lc s A) (ap tc code (520 * tx + s') A) (ap tv value (520 * tx + s') A) (upd codes tx (nI (s' + A.length))) L g2 g1 g3 (by omega) (by omega) htx (upd_y rfl) g4 (by omega) with ⟨L2, a3, h6, w1, w2, w3, w4, w5, w6, w7⟩ | ⟨a3, c3, y1, y2, p, q, code3, value3, codes3, w1, w2, w3, w4, w5, w6, w7⟩
        · have e2 := ap3 (f := cs) (r := lc) (o := s) (o1 := s + A.length) (o2 := s + A.length + L2.length) (A := A) (B := L2) (x := (11, 0)) (v := mI 10) rfl rfl (by decide)
          have e3 := ap3 (f := tc) (r := code) (o := 520 * tx + s') (o1 := 520 * tx + (s' + A.length)) (o2 := 520 * tx + (s' + A.length + L2.length)) (A := A) (B := L2) (x := (11, 0)) (v := nI 11) (by omega) (by omega) rfl
          have e4 := ap3 (f := tv) (r := value) (o := 520 * tx + s') (o1 := 520 * tx + (s' + A.length)) (o2 := 520 * tx + (s' + A.length + L2.length)) (A := A) (B := L2) (x := (11, 0)) (v := nI 0) (by omega) (by omega) rfl
          have hl := len3 (A := A) (B := L2) (x := (11, 0))
          have ih := mt_l (lc := lc) (code := code) (value := value) (codes := codes) hn h hI hM hW hB hB2 hd hs hs' htx hc j a3 (v2 + 1) (A ++ (L2 ++ [(11, 0)])) (max hA (h6 + 1)) (by omega) w2 (by omega) (by omega) (by omega) (Ex.bin (by omega) h4 w4) (by omega) kx (ky + 1) (by omega) (by omega)
          rw [hl] at ih
          rw [g6, g7, ob4_e, ob6_e, if_neg (by decide), w6, w7, ob4_e, ob6_e, if_neg (by decide), putX (by omega), ob3_e, if_neg (by decide), e2, putY htx (show s' + A.length + L2.length < 520 by omega) (upd_y rfl), ob3_e, e3, e4, upd_upd, upd_upd, show s + A.length + L2.length + 1 = s + (A.length + L2.length + 1) by omega, show s' + A.length + L2.length + 1 = s' + (A.length + L2.length + 1) by omega]
          exact ih
        · refine hbad (Nat.le_refl _) w1 (x1 := y1) (x2 := y2) (p := p) (q := q) ?_ ?_ w4 w5 w6 w7
          · rw [g6, ob4_e, if_neg (by decide), w2, ob4_e, if_pos rfl]
          · rw [g7, ob6_e, w3, ob6_e]
      · refine hbad (Nat.le_succ _) g1 (x1 := x1) (x2 := x2) (p := p) (q := q) ?_ ?_ g4 g5 g6 g7
        · rw [g2, ob4_e, if_pos rfl]
        · rw [g3, ob6_e, hW tx a2 p q code2 value2 codes2 (by omega), ob6_e]
    · refine Or.inl ⟨A, a1, hA, by omega, s2, by omega, h4, h5, ?_, ?_⟩
      · rw [ux]; simp (disch := omega) only [b_X1_readsMoreTruths_2, f_X10_take, b_X10_take_0, s3, q38, neg_nI, lit_nI, nI_add, pk_mul, pk_sub, nI_clamp, inB_nI, gd_true, bnd_def, nI_leI, nI_ltI, nI_eq, nI_mI, mI_nI, nle_T, nle_F, nlt_T, nlt_F, neq_T, neq_F, ↓reduceIte, Nat.add_zero, Nat.zero_add, Nat.mul_zero, Nat.reduceAdd, Nat.reduceMul, Nat.reduceSub, ob1_e, ob2_e, ob3_e, ob4_e, ob6_e]
      · rw [uy]; simp (disch := omega) only [b_X12_goOnOr_0, s4, q38, neg_nI, lit_nI, nI_add, pk_mul, pk_sub, nI_clamp, inB_nI, gd_true, bnd_def, nI_leI, nI_ltI, nI_eq, nI_mI, mI_nI, nle_T, nle_F, nlt_T, nlt_F, neq_T, neq_F, ↓reduceIte, Nat.add_zero, Nat.zero_add, Nat.mul_zero, Nat.reduceAdd, Nat.reduceMul, Nat.reduceSub, ob1_e, ob2_e, ob3_e, ob4_e, ob6_e]
theorem mt_o (hn : n ≤ 240) (h : RT n t u) {dp h0 B0 : Nat} (hI : OKF n t u llT FU GU dp h0 B0) (hM : OKA n t u llT FM GA dp (h0 + 1) (h0 + 1) (B0 + 1)) (hW : IDW n u GA) (hB : B0 ≤ 400) (hB2 : 240 ≤ B0) (hd : dp ≤ 6) : OKA n t u llT (g_X1_readsMoreTruths FC FO FM FU) (g_X12_goOnOr GC GA GO GU) dp (h0 + 2) (h0 + 2) (B0 + 2) := by
  intro a0 a s s' tx hA lc code value codes A ha h0' h1 hs hs' htx hc eA hhA
  have hf := fu_le
  exact mt_l hn h hI hM hW hB hB2 hd hs hs' htx hc (n + 1) a 0 A hA (by omega) ha h0' h1 (by omega) eA hhA fu fu (by omega) (by omega)
/-- what goes on behind a unit: and, or -/
theorem more_o {dp h0 B0 : Nat} (hM : OKA n t u llT FM GA dp (h0 + 1) (h0 + 1) (B0 + 1)) (hO : OKA n t u llT FO GO dp (h0 + 2) (h0 + 2) (B0 + 2)) (hW : IDW n u GO) (hn : n ≤ 240) {a0 a s s' tx hA : Nat} {lc code value codes : Nat → Int32} {A : List Tok} (ha : a ≤ n) (h0' : a0 < a) (h1 : a0 + A.length ≤ a) (hs : s ≤ a0) (hs' : s' ≤ a0) (htx : tx ≤ 4) (hc : codes tx = nI s') (eA : Ex A hA) (hhA : hA ≤ h0 + 1) : OUTL n tx dp s s' a0 (h0 + 2) (B0 + 2) lc code value codes (ob4 (FM (nI n) t llT (nI a) (nI (s + A.length)) (ap cs lc s A) (nI dp)) fun r_6 at7 s8 c9 => if r_6 = nI 0 then some (nI 0, at7, s8, c9) else ob4 (FO (nI n) t llT at7 s8 c9 (nI dp)) fun r_11 at12 s13 c14 => if r_11 = nI 0 then some (nI 0, at12, s13, c14) else some (nI 1, at12, s13, c14)) (ob6 (GA (nI n) (nI tx) u (nI a) (mI 1) (nI dp) (ap tc code (520 * tx + s') A) (ap tv value (520 * tx + s') A) (upd codes tx (nI (s' + A.length)))) fun p w q c2 v3 cc => ob6 (GO (nI n) (nI tx) u p w q c2 v3 cc) fun p w q c2 v3 cc => some (p, w, q, c2, v3, cc)) := by
  rcases hM a0 a s s' tx hA lc code value codes A ha h0' h1 hs hs' htx hc eA hhA with ⟨L2, a3, h6, w1, w2, w3, w4, w5, w6, w7⟩ | ⟨a3, c3, y1, y2, p, q, code3, value3, codes3, w1, w2, w3, w4, w5, w6, w7⟩
  · rcases hO a0 a3 s s' tx h6 lc code value codes L2 w2 w1 w3 hs hs' htx hc w4 (by omega) with ⟨L3, a4, h7, z1, z2, z3, z4, z5, z6, z7⟩ | ⟨a4, c4, y1, y2, p, q, code4, value4, codes4, z1, z2, z3, z4, z5, z6, z7⟩
    · refine Or.inl ⟨L3, a4, h7, z1, z2, z3, z4, z5, ?_, ?_⟩
      · rw [w6, ob4_e, if_neg (by decide), z6, ob4_e, if_neg (by decide)]
      · rw [w7, ob6_e, z7, ob6_e]
    · refine Or.inr ⟨a4, c4, y1, y2, p, q, code4, value4, codes4, z1, ?_, ?_, z4, z5, z6, z7⟩
      · rw [w6, ob4_e, if_neg (by decide), z2, ob4_e, if_pos rfl]
      · rw [w7, ob6_e, z3, ob6_e]
  · refine Or.inr ⟨a3, c3, y1, y2, p, q, code3, value3, codes3, w1, ?_, ?_, w4, by omega, w6, w7⟩
    · rw [w2, ob4_e, if_pos rfl]
    · rw [w3, ob6_e, hW tx a3 p q code3 value3 codes3 (by omega), ob6_e]
theorem cond_o (hn : n ≤ 240) {dp h0 B0 : Nat} (hI : OKF n t u llT FU GU dp h0 B0) (hM : OKA n t u llT FM GA dp (h0 + 1) (h0 + 1) (B0 + 1)) (hO : OKA n t u llT FO GO dp (h0 + 2) (h0 + 2) (B0 + 2)) (hW : IDW n u GA) (hW2 : IDW n u GO) : OKF n t u llT (g_X1_readsCondition FC FO FM FU) (g_X12_condition GC GA GO GU) dp (h0 + 2) (B0 + 2) := by
  intro a s s' tx lc code value codes ha hs hs' htx hc
  rcases hI a s s' tx lc code value codes ha hs hs' htx hc with ⟨L, a2, hh, g1, g2, g3, g4, g5, g6, g7⟩ | ⟨a2, c2, x1, x2, p, q, code2, value2, codes2, g1, g2, g3, g4, g5, g6, g7⟩
  · have := more_o (lc := lc) (code := code) (value := value) hM hO hW2 hn g2 g1 g3 hs hs' htx hc g4 (by omega)
    have ex : g_X1_readsCondition FC FO FM FU (nI n) t llT (nI a) (nI s) lc (nI dp) = ob4 (FM (nI n) t llT (nI a2) (nI (s + L.length)) (ap cs lc s L) (nI dp)) fun r_6 at7 s8 c9 => if r_6 = nI 0 then some (nI 0, at7, s8, c9) else ob4 (FO (nI n) t llT at7 s8 c9 (nI dp)) fun r_11 at12 s13 c14 => if r_11 = nI 0 then some (nI 0, at12, s13, c14) else some (nI 1, at12, s13, c14) := by
      simp (disch := omega) only [g_X1_readsCondition, b_X1_readsCondition_0, g6, neg_nI, lit_nI, nI_add, pk_mul, pk_sub, nI_clamp, inB_nI, gd_true, bnd_def, nI_leI, nI_ltI, nI_eq, nI_mI, mI_nI, nle_T, nle_F, nlt_T, nlt_F, neq_T, neq_F, ↓reduceIte, Nat.add_zero, Nat.zero_add, Nat.mul_zero, Nat.reduceAdd, Nat.reduceMul, Nat.reduceSub, ob1_e, ob2_e, ob3_e, ob4_e, ob6_e]
    have ey : g_X12_condition GC GA GO GU (nI n) (nI tx) u (nI a) (mI 1) (nI dp) code value codes = ob6 (GA (nI n) (nI tx) u (nI a2) (mI 1) (nI dp) (ap tc code (520 * tx + s') L) (ap tv value (520 * tx + s') L) (upd codes tx (nI (s' + L.length)))) fun p w q c2 v3 cc => ob6 (GO (nI n) (nI tx) u p w q c2 v3 cc) fun p w q c2 v3 cc => some (p, w, q, c2, v3, cc) := by
      unfold g_X12_condition b_X12_condition_0
      rw [g7, ob6_e]
    rw [ex, ey]
    exact this
  · refine Or.inr ⟨a2, c2, x1, x2, p, q, code2, value2, codes2, g1, ?_, ?_, g4, by omega, g6, g7⟩
    · simp (disch := omega) only [g_X1_readsCondition, b_X1_readsCondition_0, g2, neg_nI, lit_nI, nI_add, pk_mul, pk_sub, nI_clamp, inB_nI, gd_true, bnd_def, nI_leI, nI_ltI, nI_eq, nI_mI, mI_nI, nle_T, nle_F, nlt_T, nlt_F, neq_T, neq_F, ↓reduceIte, Nat.add_zero, Nat.zero_add, Nat.mul_zero, Nat.reduceAdd, Nat.reduceMul, Nat.reduceSub, ob1_e, ob2_e, ob3_e, ob4_e, ob6_e]
    · unfold g_X12_condition b_X12_condition_0
      rw [g3, ob6_e, hW tx a2 p q code2 value2 codes2 (by omega), ob6_e, hW2 tx a2 p q code2 value2 codes2 (by omega), ob6_e]
theorem OKF.mono {fx : FX} {fy : FY} {dp hh B hh' B' : Nat} (h : OKF n t u llT fx fy dp hh B) (h1 : hh ≤ hh') (h2 : B ≤ B') : OKF n t u llT fx fy dp hh' B' := by
  intro a s s' tx lc code value codes ha hs hs' htx hc
  rcases h a s s' tx lc code value codes ha hs hs' htx hc with ⟨L, a2, hh, g1, g2, g3, g4, g5, g6⟩ | ⟨a2, c2, x1, x2, p, q, code2, value2, codes2, g1, g2, g3, g4, g5, g6⟩
  · exact Or.inl ⟨L, a2, hh, g1, g2, g3, g4, by omega, g6⟩
  · exact Or.inr ⟨a2, c2, x1, x2, p, q, code2, value2, codes2, g1, g2, g3, g4, by omega, g6⟩
theorem and_W (d' : Nat) (h : 1 ≤ d') : IDW n u (f_X12_goOnAnd d') := by
  obtain ⟨d', rfl⟩ : ∃ e, d' = e + 1 := ⟨d' - 1, by omega⟩
  exact and_w (GC := f_X12_condition d') (GA := f_X12_goOnAnd d') (GO := f_X12_goOnOr d') (GU := f_X12_unit d')
theorem or_W (d' : Nat) (h : 1 ≤ d') : IDW n u (f_X12_goOnOr d') := by
  obtain ⟨d', rfl⟩ : ∃ e, d' = e + 1 := ⟨d' - 1, by omega⟩
  exact or_w (GC := f_X12_condition d') (GA := f_X12_goOnAnd d') (GO := f_X12_goOnOr d') (GU := f_X12_unit d')
theorem mu_d (hn : n ≤ 240) (h : RT n t u) {K dp h0 B0 : Nat} (hd : dp ≤ 6) (hB : B0 ≤ 400) (hB2 : 240 ≤ B0) (hU : ∀ d d', K ≤ d → K ≤ d' → OKF n t u llT (f_X1_readsUnit d) (f_X12_unit d') dp h0 B0) : ∀ d d', K + 1 ≤ d → K + 1 ≤ d' → OKA n t u llT (f_X1_readsMoreUnits d) (f_X12_goOnAnd d') dp (h0 + 1) (h0 + 1) (B0 + 1) := by
  intro d d' hd1 hd2
  obtain ⟨d, rfl⟩ : ∃ e, d = e + 1 := ⟨d - 1, by omega⟩
  obtain ⟨d', rfl⟩ : ∃ e, d' = e + 1 := ⟨d' - 1, by omega⟩
  exact mu_o (FC := f_X1_readsCondition d) (FO := f_X1_readsMoreTruths d) (FM := f_X1_readsMoreUnits d) (FU := f_X1_readsUnit d) (GC := f_X12_condition d') (GA := f_X12_goOnAnd d') (GO := f_X12_goOnOr d') (GU := f_X12_unit d') hn h (hU d d' (by omega) (by omega)) hB hB2 hd
theorem mt_d (hn : n ≤ 240) (h : RT n t u) {K dp h0 B0 : Nat} (hK : 1 ≤ K) (hd : dp ≤ 6) (hB : B0 ≤ 400) (hB2 : 240 ≤ B0) (hU : ∀ d d', K ≤ d → K ≤ d' → OKF n t u llT (f_X1_readsUnit d) (f_X12_unit d') dp h0 B0) : ∀ d d', K + 2 ≤ d → K + 2 ≤ d' → OKA n t u llT (f_X1_readsMoreTruths d) (f_X12_goOnOr d') dp (h0 + 2) (h0 + 2) (B0 + 2) := by
  intro d d' hd1 hd2
  obtain ⟨d, rfl⟩ : ∃ e, d = e + 1 := ⟨d - 1, by omega⟩
  obtain ⟨d', rfl⟩ : ∃ e, d' = e + 1 := ⟨d' - 1, by omega⟩
  exact mt_o (FC := f_X1_readsCondition d) (FO := f_X1_readsMoreTruths d) (FM := f_X1_readsMoreUnits d) (FU := f_X1_readsUnit d) (GC := f_X12_condition d') (GA := f_X12_goOnAnd d') (GO := f_X12_goOnOr d') (GU := f_X12_unit d') hn h (hU d d' (by omega) (by omega)) (mu_d hn h hd hB hB2 hU d d' (by omega) (by omega)) (and_W d' (by omega)) hB hB2 hd
theorem co_d (hn : n ≤ 240) (h : RT n t u) {K dp h0 B0 : Nat} (hK : 1 ≤ K) (hd : dp ≤ 6) (hB : B0 ≤ 400) (hB2 : 240 ≤ B0) (hU : ∀ d d', K ≤ d → K ≤ d' → OKF n t u llT (f_X1_readsUnit d) (f_X12_unit d') dp h0 B0) : ∀ d d', K + 3 ≤ d → K + 3 ≤ d' → OKF n t u llT (f_X1_readsCondition d) (f_X12_condition d') dp (h0 + 2) (B0 + 2) := by
  intro d d' hd1 hd2
  obtain ⟨d, rfl⟩ : ∃ e, d = e + 1 := ⟨d - 1, by omega⟩
  obtain ⟨d', rfl⟩ : ∃ e, d' = e + 1 := ⟨d' - 1, by omega⟩
  exact cond_o (FC := f_X1_readsCondition d) (FO := f_X1_readsMoreTruths d) (FM := f_X1_readsMoreUnits d) (FU := f_X1_readsUnit d) (GC := f_X12_condition d') (GA := f_X12_goOnAnd d') (GO := f_X12_goOnOr d') (GU := f_X12_unit d') hn (hU d d' (by omega) (by omega)) (mu_d hn h hd hB hB2 hU d d' (by omega) (by omega)) (mt_d hn h hK hd hB hB2 hU d d' (by omega) (by omega)) (and_W d' (by omega)) (or_W d' (by omega))
theorem unit_d (hn : n ≤ 240) (h : RT n t u) (tb : LT6 llT) : ∀ (k dp : Nat), dp + k = 6 → ∀ d d', 4 * k + 1 ≤ d → 4 * k + 1 ≤ d' → OKF n t u llT (f_X1_readsUnit d) (f_X12_unit d') dp (2 * (6 - dp) + 4) (240 + 10 * (6 - dp) + 3)
  | 0, dp, hk, d, d', hd, hd' => by
    obtain ⟨d, rfl⟩ : ∃ e, d = e + 1 := ⟨d - 1, by omega⟩
    obtain ⟨d', rfl⟩ : ∃ e, d' = e + 1 := ⟨d' - 1, by omega⟩
    exact unit_o (FC := f_X1_readsCondition d) (FO := f_X1_readsMoreTruths d) (FM := f_X1_readsMoreUnits d) (FU := f_X1_readsUnit d) (GC := f_X12_condition d') (GA := f_X12_goOnAnd d') (GO := f_X12_goOnOr d') (GU := f_X12_unit d') hn h tb (by omega) (fun q => by omega) (fun q => by omega)
  | k + 1, dp, hk, d, d', hd, hd' => by
    obtain ⟨d, rfl⟩ : ∃ e, d = e + 1 := ⟨d - 1, by omega⟩
    obtain ⟨d', rfl⟩ : ∃ e, d' = e + 1 := ⟨d' - 1, by omega⟩
    have hU := unit_d hn h tb k (dp + 1) (by omega)
    have hC := co_d hn h (by omega) (by omega) (by omega) (by omega) hU d d' (by omega) (by omega)
    exact unit_o (FC := f_X1_readsCondition d) (FO := f_X1_readsMoreTruths d) (FM := f_X1_readsMoreUnits d) (FU := f_X1_readsUnit d) (GC := f_X12_condition d') (GA := f_X12_goOnAnd d') (GO := f_X12_goOnOr d') (GU := f_X12_unit d') hn h tb (by omega) (fun _ => (hU d d' (by omega) (by omega)).mono (by omega) (by omega)) (fun _ => hC.mono (by omega) (by omega))
theorem cond60 (hn : n ≤ 240) (h : RT n t u) (tb : LT6 llT) : OKF n t u llT (f_X1_readsCondition 60) (f_X12_condition 60) 0 18 305 := co_d hn h (by omega) (by omega) (by omega) (by omega) (unit_d hn h tb 6 0 (by omega)) 60 60 (by omega) (by omega)
theorem and60 (hn : n ≤ 240) (h : RT n t u) (tb : LT6 llT) : OKA n t u llT (f_X1_readsMoreUnits 60) (f_X12_goOnAnd 60) 0 17 17 304 := mu_d hn h (by omega) (by omega) (by omega) (unit_d hn h tb 6 0 (by omega)) 60 60 (by omega) (by omega)
theorem or60 (hn : n ≤ 240) (h : RT n t u) (tb : LT6 llT) : OKA n t u llT (f_X1_readsMoreTruths 60) (f_X12_goOnOr 60) 0 18 18 305 := mt_d hn h (by omega) (by omega) (by omega) (by omega) (unit_d hn h tb 6 0 (by omega)) 60 60 (by omega) (by omega)
end CP
end
section
/-! clauses of a law by both -/
abbrev ZT : Type := Int32 × Int32 × Int32 × (Nat → Int32) × (Nat → Int32) × (Nat → Int32) × (Nat → Int32) × (Nat → Int32) × (Nat → Int32) × (Nat → Int32)
def pre : List Tok → List Tok
  | [] => []
  | x :: r => (x :: r) ++ [(13, 0)]
def XL (T S : List Tok) : List Tok := pre T ++ (S ++ [(14, 0)])
theorem pre_ne {T : List Tok} (h : T ≠ []) : pre T = T ++ [(13, 0)] := by
  cases T with
  | nil => exact absurd rfl h
  | cons x r => rfl
theorem Ex.len {L : List Tok} {h : Nat} (e : Ex L h) : 0 < L.length := e (fun L _ => 0 < L.length) (fun _ _ => Nat.one_pos) (fun _ _ => Nat.one_pos) (fun k A B x y _ _ _ => by rw [len3]; omega) (fun A x _ => by rw [len2]; omega)
theorem Ex.ne {L : List Tok} {h : Nat} (e : Ex L h) : L ≠ [] := by
  intro q
  have := e.len
  rw [q] at this
  exact absurd this (by decide)
theorem XL_0 {S : List Tok} : XL [] S = S ++ [(14, 0)] := rfl
theorem XL_1 {T S : List Tok} (h : T ≠ []) : XL T S = T ++ [(13, 0)] ++ (S ++ [(14, 0)]) := by unfold XL; rw [pre_ne h]
theorem XL_0l {S : List Tok} : (XL [] S).length = S.length + 1 := by rw [XL_0, len2]
theorem XL_1l {T S : List Tok} (h : T ≠ []) : (XL T S).length = T.length + S.length + 2 := by
  rw [XL_1 h]; simp only [List.length_append, List.length_singleton]; omega
theorem upd_s {f : Nat → Int32} {k : Nat} {x : Int32} : upd f k x k = x := upd_y rfl
def FRM (tx : Nat) (code value codes cl tf sf st code2 value2 codes2 cl2 tf2 sf2 st2 : Nat → Int32) : Prop := (∀ i, (i < 520 * tx ∨ 520 * tx + 520 ≤ i) → code2 i = code i ∧ value2 i = value i) ∧ (∀ i, i ≠ tx → codes2 i = codes i ∧ cl2 i = cl i) ∧ ∀ i, (i < 140 * tx ∨ 140 * tx + 140 ≤ i) → tf2 i = tf i ∧ sf2 i = sf i ∧ st2 i = st i
def CLb (n tx : Nat) (code value codes cl tf sf st : Nat → Int32) (x : Option XT) (y : Option ZT) : Prop := ∃ (a : Nat) (x1 : Int32) (x2 : Nat → Int32) (p q : Int32) (code2 value2 codes2 cl2 tf2 sf2 st2 : Nat → Int32), a ≤ n ∧ x = some (nI 0, nI a, x1, x2) ∧ y = some (p, nI a, q, code2, value2, codes2, cl2, tf2, sf2, st2) ∧ FRM tx code value codes cl tf sf st code2 value2 codes2 cl2 tf2 sf2 st2
def CLg (n tx k s s' a0 : Nat) (lc code value codes cl tf sf st : Nat → Int32) (x : Option XT) (y : Option ZT) : Prop := ∃ (a hS : Nat) (T S : List Tok), a0 + 3 ≤ a ∧ a ≤ n ∧ a0 + (XL T S).length ≤ a ∧ Ex S hS ∧ hS ≤ 20 ∧ (T = [] ∨ ∃ hT, hT ≤ 20 ∧ Ex T hT) ∧ x = some (nI 1, nI a, nI (s + (XL T S).length), ap cs lc s (XL T S)) ∧ y = some (nI a, mI 1, nI 0, ap tc code (520 * tx + s') (T ++ S), ap tv value (520 * tx + s') (T ++ S), upd codes tx (nI (s' + (T ++ S).length)), upd cl tx (nI (k + 1)), upd tf (140 * tx + k) (nI s'), upd sf (140 * tx + k) (nI (s' + T.length)), upd st (140 * tx + k) (nI (s' + (T ++ S).length)))
def CLO (n tx k s s' a0 : Nat) (lc code value codes cl tf sf st : Nat → Int32) (x : Option XT) (y : Option ZT) : Prop := CLg n tx k s s' a0 lc code value codes cl tf sf st x y ∨ CLb n tx code value codes cl tf sf st x y
section CL
variable {n : Nat} {t u llT : Nat → Int32}
theorem c251 {tx p : Nat} {A W D : Int32} {code value codes cl tf sf st : Nat → Int32} (ht : tx ≤ 4) (hp : p < 700) : b_X12_clause_251 (nI n) (nI tx) u A W D code value codes cl tf sf st (nI p) = some (A, W, D, code, value, codes, upd cl tx (cl tx + nI 1), tf, sf, upd st p (codes tx)) := by
  simp (disch := omega) only [b_X12_clause_251, neg_nI, lit_nI, nI_add, pk_mul, pk_sub, nI_clamp, inB_nI, gd_true, bnd_def, nI_leI, nI_ltI, nI_eq, nI_mI, mI_nI, nle_T, nle_F, nlt_T, nlt_F, neq_T, neq_F, ↓reduceIte, Nat.add_zero, Nat.zero_add, Nat.mul_zero, Nat.reduceAdd, Nat.reduceMul, Nat.reduceSub, ob1_e, ob2_e, ob3_e, ob4_e, ob6_e]
theorem c184_0 {tx p : Nat} {A W D : Int32} {code value codes cl tf sf st : Nat → Int32} (ht : tx ≤ 4) (hp : p < 700) : b_X12_clause_184 (nI n) (nI tx) u A W D code value codes cl tf sf st (nI p) (nI 0) = some (A, W, D, code, value, codes, upd cl tx (cl tx + nI 1), tf, upd sf p (tf p), upd st p (codes tx)) := by
  simp (disch := omega) only [b_X12_clause_184, c251, neg_nI, lit_nI, nI_add, pk_mul, pk_sub, nI_clamp, inB_nI, gd_true, bnd_def, nI_leI, nI_ltI, nI_eq, nI_mI, mI_nI, nle_T, nle_F, nlt_T, nlt_F, neq_T, neq_F, ↓reduceIte, Nat.add_zero, Nat.zero_add, Nat.mul_zero, Nat.reduceAdd, Nat.reduceMul, Nat.reduceSub, ob1_e, ob2_e, ob3_e, ob4_e, ob6_e]
theorem c184_w {tx p w : Nat} {A D : Int32} {code value codes cl tf sf st : Nat → Int32} (ht : tx ≤ 4) (hp : p < 700) (hw : w ≤ 240) : b_X12_clause_184 (nI n) (nI tx) u A (nI w) D code value codes cl tf sf st (nI p) (nI 1) = some (A, nI w, D, code, value, codes, upd cl tx (cl tx + nI 1), tf, upd sf p (tf p), upd st p (codes tx)) := by
  simp (disch := omega) only [b_X12_clause_184, c251, neg_nI, lit_nI, nI_add, pk_mul, pk_sub, nI_clamp, inB_nI, gd_true, bnd_def, nI_leI, nI_ltI, nI_eq, nI_mI, mI_nI, nle_T, nle_F, nlt_T, nlt_F, neq_T, neq_F, ↓reduceIte, Nat.add_zero, Nat.zero_add, Nat.mul_zero, Nat.reduceAdd, Nat.reduceMul, Nat.reduceSub, ob1_e, ob2_e, ob3_e, ob4_e, ob6_e]
/-- behind a condition: its ? and a sum -/
theorem qu_o (hn : n ≤ 240) (h : RT n t u) (tb : LT6 llT) {tx k s s' a0 a hT : Nat} {lc code value codes cl tf sf st : Nat → Int32} {T : List Tok} (htx : tx ≤ 4) (hk : k < 140) (hcl : cl tx = nI k) (ha : a ≤ n) (h2 : a0 + 2 + T.length ≤ a) (hs : s ≤ a0) (hs' : s' ≤ a0) (eT : Ex T hT) (hhT : hT ≤ 20) (hc : codes tx = nI s') : CLO n tx k s s' a0 lc code value codes cl tf sf st (b_X1_readsClause_126 (nI n) t llT (nI a) (nI (s + T.length)) (ap cs lc s T) (nI 1)) (b_X12_clause_184 (nI n) (nI tx) u (nI a) (mI 1) (nI 0) (ap tc code (520 * tx + s') T) (ap tv value (520 * tx + s') T) (upd codes tx (nI (s' + T.length))) cl (upd tf (140 * tx + k) (nI s')) sf st (nI (140 * tx + k)) (nI 1)) := by
  obtain ⟨a1, c, s1, s2, s3, s4, s5, s6, s7⟩ := sg_c hn h ha
  by_cases q63 : c = nI 63
  · subst q63
    have hlt : a1 < n := by
      rcases s7 with ⟨e, _⟩ | ⟨_, _, _, _, _, e, _⟩
      · exact absurd e (nI_nm (by omega))
      · exact e
    have e1 := ap2 (f := cs) (r := lc) (o := s) (o1 := s + T.length) (A := T) (x := (13, 0)) (v := mI 12) rfl (by decide)
    have hX : b_X1_readsClause_126 (nI n) t llT (nI a) (nI (s + T.length)) (ap cs lc s T) (nI 1) = ob4 (f_X1_readsSum 60 (nI n) t llT (nI (a1 + 1)) (nI (s + T.length + 1)) (ap cs lc s (T ++ [(13, 0)])) (nI 0)) fun r_8 at9 s10 c11 => if r_8 = nI 0 then some (nI 0, at9, s10, c11) else b_X1_readsClause_161 (nI n) t llT at9 s10 c11 := by
      simp (disch := omega) only [b_X1_readsClause_126, f_X10_take, b_X10_take_0, s3, putX, e1, neg_nI, lit_nI, nI_add, pk_mul, pk_sub, nI_clamp, inB_nI, gd_true, bnd_def, nI_leI, nI_ltI, nI_eq, nI_mI, mI_nI, nle_T, nle_F, nlt_T, nlt_F, neq_T, neq_F, ↓reduceIte, Nat.add_zero, Nat.zero_add, Nat.mul_zero, Nat.reduceAdd, Nat.reduceMul, Nat.reduceSub, ob1_e, ob2_e, ob3_e, ob4_e, ob6_e]
    have hY : b_X12_clause_184 (nI n) (nI tx) u (nI a) (mI 1) (nI 0) (ap tc code (520 * tx + s') T) (ap tv value (520 * tx + s') T) (upd codes tx (nI (s' + T.length))) cl (upd tf (140 * tx + k) (nI s')) sf st (nI (140 * tx + k)) (nI 1) = ob6 (f_X12_sum 60 (nI n) (nI tx) u (nI (a1 + 1)) (mI 1) (nI 0) (ap tc code (520 * tx + s') T) (ap tv value (520 * tx + s') T) (upd codes tx (nI (s' + T.length)))) fun p w q c2 v3 cc => b_X12_clause_251 (nI n) (nI tx) u p w q c2 v3 cc cl (upd tf (140 * tx + k) (nI s')) (upd sf (140 * tx + k) (nI (s' + T.length))) st (nI (140 * tx + k)) := by
      simp (disch := omega) only [b_X12_clause_184, s4, upd_s, upd_upd, neg_nI, lit_nI, nI_add, pk_mul, pk_sub, nI_clamp, inB_nI, gd_true, bnd_def, nI_leI, nI_ltI, nI_eq, nI_mI, mI_nI, nle_T, nle_F, nlt_T, nlt_F, neq_T, neq_F, ↓reduceIte, Nat.add_zero, Nat.zero_add, Nat.mul_zero, Nat.reduceAdd, Nat.reduceMul, Nat.reduceSub, ob1_e, ob2_e, ob3_e, ob4_e, ob6_e]
    rw [hX, hY]
    rcases sum60 hn h tb (dp := 0) (by omega) (a1 + 1) (s + T.length + 1) (s' + T.length) tx (ap cs lc s (T ++ [(13, 0)])) (ap tc code (520 * tx + s') T) (ap tv value (520 * tx + s') T) (upd codes tx (nI (s' + T.length))) (by omega) (by omega) (by omega) htx (upd_y rfl) with ⟨L, a2, hh, g1, g2, g3, g4, g5, g6, g7⟩ | ⟨a2, c2, x1, x2, p, q, code2, value2, codes2, g1, g2, g3, g4, g5, g6, g7⟩
    · have hl := XL_1l (T := T) (S := L) eT.ne
      have e2 : upd (ap cs (ap cs lc s (T ++ [(13, 0)])) (s + T.length + 1) L) (s + T.length + 1 + L.length) (mI 13) = ap cs lc s (XL T L) := by
        rw [XL_1 eT.ne]
        exact ap3 (by rw [len2]; omega) (by rw [len2]; omega) (by decide)
      have e3 : ap tc (ap tc code (520 * tx + s') T) (520 * tx + (s' + T.length)) L = ap tc code (520 * tx + s') (T ++ L) := by rw [← ap_app, Nat.add_assoc]
      have e4 : ap tv (ap tv value (520 * tx + s') T) (520 * tx + (s' + T.length)) L = ap tv value (520 * tx + s') (T ++ L) := by rw [← ap_app, Nat.add_assoc]
      have hll : (T ++ L).length = T.length + L.length := List.length_append
      refine Or.inl ⟨a2, hh, T, L, by omega, g2, by omega, g4, by omega, Or.inr ⟨hT, hhT, eT⟩, ?_, ?_⟩
      · rw [g6, ob4_e, if_neg (by decide), hl]
        unfold b_X1_readsClause_161
        rw [show (-13 : Int32) = mI 13 from rfl, putX (by omega), ob3_e, isZ_1, gd_true, e2, show s + T.length + 1 + L.length + 1 = s + (T.length + L.length + 2) by omega]
      · rw [g7, ob6_e, c251 htx (by omega), e3, e4, upd_upd, upd_s, hcl, nI_add, hll, Nat.add_assoc s' T.length L.length]
    · refine Or.inr ⟨a2, x1, x2, p, q, code2, value2, codes2, upd cl tx (cl tx + nI 1), upd tf (140 * tx + k) (nI s'), upd sf (140 * tx + k) (nI (s' + T.length)), upd st (140 * tx + k) (codes2 tx), g1, ?_, ?_, ?_, ?_, ?_⟩
      · rw [g2, ob4_e, if_pos rfl]
      · rw [g3, ob6_e, c251 htx (by omega)]
      · intro i hi
        obtain ⟨w1, w2⟩ := g6 i hi
        have w3 : (i < 520 * tx + s' ∨ 520 * tx + s' + T.length ≤ i) := by omega
        rw [w1, w2, ap_out _ _ _ _ w3, ap_out _ _ _ _ w3]
        exact ⟨rfl, rfl⟩
      · intro i hi
        rw [g7 i hi, upd_n hi, upd_n hi]
        exact ⟨rfl, rfl⟩
      · intro i hi
        rw [upd_n (by omega), upd_n (by omega), upd_n (by omega)]
        exact ⟨rfl, rfl, rfl⟩
  · refine Or.inr ⟨a1, nI (s + T.length), ap cs lc s T, nI a1, nI 0, ap tc code (520 * tx + s') T, ap tv value (520 * tx + s') T, upd codes tx (nI (s' + T.length)), cl, upd tf (140 * tx + k) (nI s'), upd sf (140 * tx + k) (nI s'), st, s2, ?_, ?_, ?_, ?_, ?_⟩
    · simp (disch := omega) only [b_X1_readsClause_126, f_X10_take, b_X10_take_0, s3, q63, neg_nI, lit_nI, nI_add, pk_mul, pk_sub, nI_clamp, inB_nI, gd_true, bnd_def, nI_leI, nI_ltI, nI_eq, nI_mI, mI_nI, nle_T, nle_F, nlt_T, nlt_F, neq_T, neq_F, ↓reduceIte, Nat.add_zero, Nat.zero_add, Nat.mul_zero, Nat.reduceAdd, Nat.reduceMul, Nat.reduceSub, ob1_e, ob2_e, ob3_e, ob4_e, ob6_e]
    · simp (disch := omega) only [b_X12_clause_184, s4, q63, upd_s, bad_n, neg_nI, lit_nI, nI_add, pk_mul, pk_sub, nI_clamp, inB_nI, gd_true, bnd_def, nI_leI, nI_ltI, nI_eq, nI_mI, mI_nI, nle_T, nle_F, nlt_T, nlt_F, neq_T, neq_F, ↓reduceIte, Nat.add_zero, Nat.zero_add, Nat.mul_zero, Nat.reduceAdd, Nat.reduceMul, Nat.reduceSub, ob1_e, ob2_e, ob3_e, ob4_e, ob6_e]
    · intro i hi
      have w3 : (i < 520 * tx + s' ∨ 520 * tx + s' + T.length ≤ i) := by omega
      rw [ap_out _ _ _ _ w3, ap_out _ _ _ _ w3]
      exact ⟨rfl, rfl⟩
    · intro i hi
      rw [upd_n hi]
      exact ⟨rfl, rfl⟩
    · intro i hi
      rw [upd_n (by omega), upd_n (by omega)]
      exact ⟨rfl, rfl, rfl⟩
end CL
end
section
/-! clauses of a law by both: the whole clause -/
section CM
variable {n : Nat} {t u llT : Nat → Int32}
theorem frm_b {tx p : Nat} {code value codes cl tf sf st code2 value2 codes2 : Nat → Int32} (g6 : ∀ i, (i < 520 * tx ∨ 520 * tx + 520 ≤ i) → code2 i = code i ∧ value2 i = value i) (g7 : ∀ i, i ≠ tx → codes2 i = codes i) (hp : 140 * tx ≤ p ∧ p < 140 * tx + 140) (v1 v2 v3 v4 : Int32) : FRM tx code value codes cl tf sf st code2 value2 codes2 (upd cl tx v1) (upd tf p v2) (upd sf p v3) (upd st p v4) := by
  refine ⟨g6, fun i hi => ?_, fun i hi => ?_⟩
  · rw [g7 i hi, upd_n hi]; exact ⟨rfl, rfl⟩
  · rw [upd_n (by omega), upd_n (by omega), upd_n (by omega)]; exact ⟨rfl, rfl, rfl⟩
theorem frm_r {tx : Nat} {code value codes cl tf sf st : Nat → Int32} : FRM tx code value codes cl tf sf st code value codes cl tf sf st := ⟨fun _ _ => ⟨rfl, rfl⟩, fun _ _ => ⟨rfl, rfl⟩, fun _ _ => ⟨rfl, rfl, rfl⟩⟩
theorem cs_c {a : Nat} {c : Int32} (h : cIs n a c t u) : (f_X1_comparison c = some (mI 1) ∧ f_X12_isSign c = some (nI 0)) ∨ ∃ r, f_X1_comparison c = some r ∧ (r = mI 1) = False ∧ f_X12_isSign c = some (nI 1) := by
  rcases h with ⟨rfl, _⟩ | ⟨b, b0, b1, b2, rfl, _⟩
  · left
    constructor
    · simp (disch := omega) only [f_X1_comparison, b_X1_comparison_0, neg_nI, lit_nI, nI_add, pk_mul, pk_sub, nI_clamp, inB_nI, gd_true, bnd_def, nI_leI, nI_ltI, nI_eq, nI_mI, mI_nI, nle_T, nle_F, nlt_T, nlt_F, neq_T, neq_F, ↓reduceIte, Nat.add_zero, Nat.zero_add, Nat.mul_zero, Nat.reduceAdd, Nat.reduceMul, Nat.reduceSub, ob1_e, ob2_e, ob3_e, ob4_e, ob6_e]
    · simp (disch := omega) only [f_X12_isSign, b_X12_isSign_0, b_X12_isSign_18, neg_nI, lit_nI, nI_add, pk_mul, pk_sub, nI_clamp, inB_nI, gd_true, bnd_def, nI_leI, nI_ltI, nI_eq, nI_mI, mI_nI, nle_T, nle_F, nlt_T, nlt_F, neq_T, neq_F, ↓reduceIte, Nat.add_zero, Nat.zero_add, Nat.mul_zero, Nat.reduceAdd, Nat.reduceMul, Nat.reduceSub, ob1_e, ob2_e, ob3_e, ob4_e, ob6_e]
  by_cases q6 : b = 61
  · subst q6
    right
    refine ⟨mI 6, ?_, eq_false (by decide), ?_⟩
    · simp (disch := omega) only [f_X1_comparison, b_X1_comparison_0, neg_nI, lit_nI, nI_add, pk_mul, pk_sub, nI_clamp, inB_nI, gd_true, bnd_def, nI_leI, nI_ltI, nI_eq, nI_mI, mI_nI, nle_T, nle_F, nlt_T, nlt_F, neq_T, neq_F, ↓reduceIte, Nat.add_zero, Nat.zero_add, Nat.mul_zero, Nat.reduceAdd, Nat.reduceMul, Nat.reduceSub, ob1_e, ob2_e, ob3_e, ob4_e, ob6_e]
    · simp (disch := omega) only [f_X12_isSign, b_X12_isSign_0, b_X12_isSign_18, neg_nI, lit_nI, nI_add, pk_mul, pk_sub, nI_clamp, inB_nI, gd_true, bnd_def, nI_leI, nI_ltI, nI_eq, nI_mI, mI_nI, nle_T, nle_F, nlt_T, nlt_F, neq_T, neq_F, ↓reduceIte, Nat.add_zero, Nat.zero_add, Nat.mul_zero, Nat.reduceAdd, Nat.reduceMul, Nat.reduceSub, ob1_e, ob2_e, ob3_e, ob4_e, ob6_e]
  by_cases q7 : b = 60
  · subst q7
    right
    refine ⟨mI 7, ?_, eq_false (by decide), ?_⟩
    · simp (disch := omega) only [f_X1_comparison, b_X1_comparison_0, neg_nI, lit_nI, nI_add, pk_mul, pk_sub, nI_clamp, inB_nI, gd_true, bnd_def, nI_leI, nI_ltI, nI_eq, nI_mI, mI_nI, nle_T, nle_F, nlt_T, nlt_F, neq_T, neq_F, ↓reduceIte, Nat.add_zero, Nat.zero_add, Nat.mul_zero, Nat.reduceAdd, Nat.reduceMul, Nat.reduceSub, ob1_e, ob2_e, ob3_e, ob4_e, ob6_e]
    · simp (disch := omega) only [f_X12_isSign, b_X12_isSign_0, b_X12_isSign_18, neg_nI, lit_nI, nI_add, pk_mul, pk_sub, nI_clamp, inB_nI, gd_true, bnd_def, nI_leI, nI_ltI, nI_eq, nI_mI, mI_nI, nle_T, nle_F, nlt_T, nlt_F, neq_T, neq_F, ↓reduceIte, Nat.add_zero, Nat.zero_add, Nat.mul_zero, Nat.reduceAdd, Nat.reduceMul, Nat.reduceSub, ob1_e, ob2_e, ob3_e, ob4_e, ob6_e]
  by_cases q8 : b = 62
  · subst q8
    right
    refine ⟨mI 8, ?_, eq_false (by decide), ?_⟩
    · simp (disch := omega) only [f_X1_comparison, b_X1_comparison_0, neg_nI, lit_nI, nI_add, pk_mul, pk_sub, nI_clamp, inB_nI, gd_true, bnd_def, nI_leI, nI_ltI, nI_eq, nI_mI, mI_nI, nle_T, nle_F, nlt_T, nlt_F, neq_T, neq_F, ↓reduceIte, Nat.add_zero, Nat.zero_add, Nat.mul_zero, Nat.reduceAdd, Nat.reduceMul, Nat.reduceSub, ob1_e, ob2_e, ob3_e, ob4_e, ob6_e]
    · simp (disch := omega) only [f_X12_isSign, b_X12_isSign_0, b_X12_isSign_18, neg_nI, lit_nI, nI_add, pk_mul, pk_sub, nI_clamp, inB_nI, gd_true, bnd_def, nI_leI, nI_ltI, nI_eq, nI_mI, mI_nI, nle_T, nle_F, nlt_T, nlt_F, neq_T, neq_F, ↓reduceIte, Nat.add_zero, Nat.zero_add, Nat.mul_zero, Nat.reduceAdd, Nat.reduceMul, Nat.reduceSub, ob1_e, ob2_e, ob3_e, ob4_e, ob6_e]

  left
  constructor
  · simp (disch := omega) only [f_X1_comparison, b_X1_comparison_0, neg_nI, lit_nI, nI_add, pk_mul, pk_sub, nI_clamp, inB_nI, gd_true, bnd_def, nI_leI, nI_ltI, nI_eq, nI_mI, mI_nI, nle_T, nle_F, nlt_T, nlt_F, neq_T, neq_F, ↓reduceIte, Nat.add_zero, Nat.zero_add, Nat.mul_zero, Nat.reduceAdd, Nat.reduceMul, Nat.reduceSub, ob1_e, ob2_e, ob3_e, ob4_e, ob6_e]
  · simp (disch := omega) only [f_X12_isSign, b_X12_isSign_0, b_X12_isSign_18, neg_nI, lit_nI, nI_add, pk_mul, pk_sub, nI_clamp, inB_nI, gd_true, bnd_def, nI_leI, nI_ltI, nI_eq, nI_mI, mI_nI, nle_T, nle_F, nlt_T, nlt_F, neq_T, neq_F, ↓reduceIte, Nat.add_zero, Nat.zero_add, Nat.mul_zero, Nat.reduceAdd, Nat.reduceMul, Nat.reduceSub, ob1_e, ob2_e, ob3_e, ob4_e, ob6_e]
theorem clause_o (hn : n ≤ 240) (h : RT n t u) (tb : LT6 llT) {tx k s s' a : Nat} {lc code value codes cl tf sf st : Nat → Int32} (htx : tx ≤ 4) (hk : k < 140) (hcl : cl tx = nI k) (ha : a ≤ n) (hs : s ≤ a) (hs' : s' ≤ a) (hc : codes tx = nI s') : CLO n tx k s s' a lc code value codes cl tf sf st (f_X1_readsClause (nI n) t llT (nI a) (nI s) lc) (f_X12_clause (nI n) (nI tx) u (nI a) (mI 1) (nI 0) code value codes cl tf sf st) := by
  obtain ⟨a1, c, s1, s2, s3, s4, s5, s6, s7⟩ := sg_c hn h ha
  by_cases q1 : c = nI 121
  case neg =>
    refine Or.inr ⟨a1, nI s, lc, nI (a1 + 1 + 1), nI 0, code, value, codes, cl, tf, sf, st, s2, ?_, ?_, frm_r⟩
    · simp (disch := omega) only [f_X1_readsClause, b_X1_readsClause_0, f_X10_take, b_X10_take_0, s3, q1, neg_nI, lit_nI, nI_add, pk_mul, pk_sub, nI_clamp, inB_nI, gd_true, bnd_def, nI_leI, nI_ltI, nI_eq, nI_mI, mI_nI, nle_T, nle_F, nlt_T, nlt_F, neq_T, neq_F, ↓reduceIte, Nat.add_zero, Nat.zero_add, Nat.mul_zero, Nat.reduceAdd, Nat.reduceMul, Nat.reduceSub, ob1_e, ob2_e, ob3_e, ob4_e, ob6_e]
    · simp (disch := omega) only [f_X12_clause, b_X12_clause_0, s4, q1, bad_n, hcl, neg_nI, lit_nI, nI_add, pk_mul, pk_sub, nI_clamp, inB_nI, gd_true, bnd_def, nI_leI, nI_ltI, nI_eq, nI_mI, mI_nI, nle_T, nle_F, nlt_T, nlt_F, neq_T, neq_F, ↓reduceIte, Nat.add_zero, Nat.zero_add, Nat.mul_zero, Nat.reduceAdd, Nat.reduceMul, Nat.reduceSub, ob1_e, ob2_e, ob3_e, ob4_e, ob6_e]
      simp (disch := omega) only [b_X12_clause_40, neg_nI, lit_nI, nI_add, pk_mul, pk_sub, nI_clamp, inB_nI, gd_true, bnd_def, nI_leI, nI_ltI, nI_eq, nI_mI, mI_nI, nle_T, nle_F, nlt_T, nlt_F, neq_T, neq_F, ↓reduceIte, Nat.add_zero, Nat.zero_add, Nat.mul_zero, Nat.reduceAdd, Nat.reduceMul, Nat.reduceSub, ob1_e, ob2_e, ob3_e, ob4_e, ob6_e]
      simp (disch := omega) only [b_X12_clause_71, neg_nI, lit_nI, nI_add, pk_mul, pk_sub, nI_clamp, inB_nI, gd_true, bnd_def, nI_leI, nI_ltI, nI_eq, nI_mI, mI_nI, nle_T, nle_F, nlt_T, nlt_F, neq_T, neq_F, ↓reduceIte, Nat.add_zero, Nat.zero_add, Nat.mul_zero, Nat.reduceAdd, Nat.reduceMul, Nat.reduceSub, ob1_e, ob2_e, ob3_e, ob4_e, ob6_e]
  subst q1
  have hlt : a1 < n := by
    rcases s7 with ⟨e, _⟩ | ⟨_, _, _, _, _, e, _⟩
    · exact absurd e (nI_nm (by omega))
    · exact e
  obtain ⟨a2, c2, t1, t2, t3, t4, t5, t6, t7⟩ := sg_c hn h (a := a1 + 1) (by omega)
  by_cases q2 : c2 = nI 58
  case neg =>
    refine Or.inr ⟨a2, nI s, lc, nI (a2 + 1), nI 0, code, value, codes, cl, tf, sf, st, t2, ?_, ?_, frm_r⟩
    · simp (disch := omega) only [f_X1_readsClause, b_X1_readsClause_0, f_X10_take, b_X10_take_0, s3, t3, q2, neg_nI, lit_nI, nI_add, pk_mul, pk_sub, nI_clamp, inB_nI, gd_true, bnd_def, nI_leI, nI_ltI, nI_eq, nI_mI, mI_nI, nle_T, nle_F, nlt_T, nlt_F, neq_T, neq_F, ↓reduceIte, Nat.add_zero, Nat.zero_add, Nat.mul_zero, Nat.reduceAdd, Nat.reduceMul, Nat.reduceSub, ob1_e, ob2_e, ob3_e, ob4_e, ob6_e]
    · simp (disch := omega) only [f_X12_clause, b_X12_clause_0, s4, bad_n, hcl, neg_nI, lit_nI, nI_add, pk_mul, pk_sub, nI_clamp, inB_nI, gd_true, bnd_def, nI_leI, nI_ltI, nI_eq, nI_mI, mI_nI, nle_T, nle_F, nlt_T, nlt_F, neq_T, neq_F, ↓reduceIte, Nat.add_zero, Nat.zero_add, Nat.mul_zero, Nat.reduceAdd, Nat.reduceMul, Nat.reduceSub, ob1_e, ob2_e, ob3_e, ob4_e, ob6_e]
      simp (disch := omega) only [b_X12_clause_40, t4, q2, bad_n, neg_nI, lit_nI, nI_add, pk_mul, pk_sub, nI_clamp, inB_nI, gd_true, bnd_def, nI_leI, nI_ltI, nI_eq, nI_mI, mI_nI, nle_T, nle_F, nlt_T, nlt_F, neq_T, neq_F, ↓reduceIte, Nat.add_zero, Nat.zero_add, Nat.mul_zero, Nat.reduceAdd, Nat.reduceMul, Nat.reduceSub, ob1_e, ob2_e, ob3_e, ob4_e, ob6_e]
      simp (disch := omega) only [b_X12_clause_71, neg_nI, lit_nI, nI_add, pk_mul, pk_sub, nI_clamp, inB_nI, gd_true, bnd_def, nI_leI, nI_ltI, nI_eq, nI_mI, mI_nI, nle_T, nle_F, nlt_T, nlt_F, neq_T, neq_F, ↓reduceIte, Nat.add_zero, Nat.zero_add, Nat.mul_zero, Nat.reduceAdd, Nat.reduceMul, Nat.reduceSub, ob1_e, ob2_e, ob3_e, ob4_e, ob6_e]
  subst q2
  have hlt2 : a2 < n := by
    rcases t7 with ⟨e, _⟩ | ⟨_, _, _, _, _, e, _⟩
    · exact absurd e (nI_nm (by omega))
    · exact e
  obtain ⟨a3, c3, r1, r2, r3, r4, r5, r6, r7⟩ := sg_c hn h (a := a2 + 1) (by omega)
  have hX0 : f_X1_readsClause (nI n) t llT (nI a) (nI s) lc = (if c3 = nI 33 then b_X1_readsClause_46 (nI n) t llT (nI a3) (nI s) lc else if c3 = nI 40 then b_X1_readsClause_46 (nI n) t llT (nI a3) (nI s) lc else b_X1_readsClause_51 (nI n) t llT (nI a3) (nI s) lc (nI 0)) := by
    simp (disch := omega) only [f_X1_readsClause, b_X1_readsClause_0, f_X10_take, b_X10_take_0, s3, t3, r3, neg_nI, lit_nI, nI_add, pk_mul, pk_sub, nI_clamp, inB_nI, gd_true, bnd_def, nI_leI, nI_ltI, nI_eq, nI_mI, mI_nI, nle_T, nle_F, nlt_T, nlt_F, neq_T, neq_F, ↓reduceIte, Nat.add_zero, Nat.zero_add, Nat.mul_zero, Nat.reduceAdd, Nat.reduceMul, Nat.reduceSub, ob1_e, ob2_e, ob3_e, ob4_e, ob6_e]
  have hY0 : f_X12_clause (nI n) (nI tx) u (nI a) (mI 1) (nI 0) code value codes cl tf sf st = (if c3 = nI 33 then b_X12_clause_123 (nI n) (nI tx) u (nI a3) (mI 1) (nI 0) code value codes cl (upd tf (140 * tx + k) (nI s')) sf st (nI (140 * tx + k)) else if c3 = nI 40 then b_X12_clause_123 (nI n) (nI tx) u (nI a3) (mI 1) (nI 0) code value codes cl (upd tf (140 * tx + k) (nI s')) sf st (nI (140 * tx + k)) else b_X12_clause_128 (nI n) (nI tx) u (nI a3) (mI 1) (nI 0) code value codes cl (upd tf (140 * tx + k) (nI s')) sf st (nI (140 * tx + k)) (nI 0)) := by
    simp (disch := omega) only [f_X12_clause, b_X12_clause_0, s4, hcl, neg_nI, lit_nI, nI_add, pk_mul, pk_sub, nI_clamp, inB_nI, gd_true, bnd_def, nI_leI, nI_ltI, nI_eq, nI_mI, mI_nI, nle_T, nle_F, nlt_T, nlt_F, neq_T, neq_F, ↓reduceIte, Nat.add_zero, Nat.zero_add, Nat.mul_zero, Nat.reduceAdd, Nat.reduceMul, Nat.reduceSub, ob1_e, ob2_e, ob3_e, ob4_e, ob6_e]
    simp (disch := omega) only [b_X12_clause_40, t4, neg_nI, lit_nI, nI_add, pk_mul, pk_sub, nI_clamp, inB_nI, gd_true, bnd_def, nI_leI, nI_ltI, nI_eq, nI_mI, mI_nI, nle_T, nle_F, nlt_T, nlt_F, neq_T, neq_F, ↓reduceIte, Nat.add_zero, Nat.zero_add, Nat.mul_zero, Nat.reduceAdd, Nat.reduceMul, Nat.reduceSub, ob1_e, ob2_e, ob3_e, ob4_e, ob6_e]
    simp (disch := omega) only [b_X12_clause_71, r4, r6, hc, neg_nI, lit_nI, nI_add, pk_mul, pk_sub, nI_clamp, inB_nI, gd_true, bnd_def, nI_leI, nI_ltI, nI_eq, nI_mI, mI_nI, nle_T, nle_F, nlt_T, nlt_F, neq_T, neq_F, ↓reduceIte, Nat.add_zero, Nat.zero_add, Nat.mul_zero, Nat.reduceAdd, Nat.reduceMul, Nat.reduceSub, ob1_e, ob2_e, ob3_e, ob4_e, ob6_e]
  rw [hX0, hY0]
  have hcond : CLO n tx k s s' a lc code value codes cl tf sf st (b_X1_readsClause_46 (nI n) t llT (nI a3) (nI s) lc) (b_X12_clause_123 (nI n) (nI tx) u (nI a3) (mI 1) (nI 0) code value codes cl (upd tf (140 * tx + k) (nI s')) sf st (nI (140 * tx + k))) := by
    have hX : b_X1_readsClause_46 (nI n) t llT (nI a3) (nI s) lc = ob4 (f_X1_readsCondition 60 (nI n) t llT (nI a3) (nI s) lc (nI 0)) fun r_11 at12 s13 c14 => if r_11 = nI 0 then some (nI 0, at12, s13, c14) else b_X1_readsClause_126 (nI n) t llT at12 s13 c14 (nI 1) := by
      simp (disch := omega) only [b_X1_readsClause_46, b_X1_readsClause_51, neg_nI, lit_nI, nI_add, pk_mul, pk_sub, nI_clamp, inB_nI, gd_true, bnd_def, nI_leI, nI_ltI, nI_eq, nI_mI, mI_nI, nle_T, nle_F, nlt_T, nlt_F, neq_T, neq_F, ↓reduceIte, Nat.add_zero, Nat.zero_add, Nat.mul_zero, Nat.reduceAdd, Nat.reduceMul, Nat.reduceSub, ob1_e, ob2_e, ob3_e, ob4_e, ob6_e]
    have hY : b_X12_clause_123 (nI n) (nI tx) u (nI a3) (mI 1) (nI 0) code value codes cl (upd tf (140 * tx + k) (nI s')) sf st (nI (140 * tx + k)) = ob6 (f_X12_condition 60 (nI n) (nI tx) u (nI a3) (mI 1) (nI 0) code value codes) fun p w q c2 v3 cc => b_X12_clause_184 (nI n) (nI tx) u p w q c2 v3 cc cl (upd tf (140 * tx + k) (nI s')) sf st (nI (140 * tx + k)) (nI 1) := by
      simp (disch := omega) only [b_X12_clause_123, b_X12_clause_128, neg_nI, lit_nI, nI_add, pk_mul, pk_sub, nI_clamp, inB_nI, gd_true, bnd_def, nI_leI, nI_ltI, nI_eq, nI_mI, mI_nI, nle_T, nle_F, nlt_T, nlt_F, neq_T, neq_F, ↓reduceIte, Nat.add_zero, Nat.zero_add, Nat.mul_zero, Nat.reduceAdd, Nat.reduceMul, Nat.reduceSub, ob1_e, ob2_e, ob3_e, ob4_e, ob6_e]
    rw [hX, hY]
    rcases cond60 hn h tb a3 s s' tx lc code value codes r2 (by omega) (by omega) htx hc with ⟨L, a4, hh, g1, g2, g3, g4, g5, g6, g7⟩ | ⟨a4, c4, x1, x2, p, q, code2, value2, codes2, g1, g2, g3, g4, g5, g6, g7⟩
    · rw [g6, g7, ob4_e, ob6_e, if_neg (by decide)]
      exact qu_o hn h tb htx hk hcl g2 (by omega) hs hs' g4 (by omega) hc
    · refine Or.inr ⟨a4, x1, x2, p, q, code2, value2, codes2, upd cl tx (cl tx + nI 1), upd tf (140 * tx + k) (nI s'), upd sf (140 * tx + k) (upd tf (140 * tx + k) (nI s') (140 * tx + k)), upd st (140 * tx + k) (codes2 tx), g1, ?_, ?_, frm_b g6 g7 (by omega) _ _ _ _⟩
      · rw [g2, ob4_e, if_pos rfl]
      · rw [g3, ob6_e, c184_w htx (by omega) (by omega)]
  by_cases q33 : c3 = nI 33
  · rw [if_pos q33, if_pos q33]; exact hcond
  rw [if_neg q33, if_neg q33]
  by_cases q40 : c3 = nI 40
  · rw [if_pos q40, if_pos q40]; exact hcond
  rw [if_neg q40, if_neg q40]
  rcases sum60 hn h tb (dp := 0) (by omega) a3 s s' tx lc code value codes r2 (by omega) (by omega) htx hc with ⟨L, a4, hh, g1, g2, g3, g4, g5, g6, g7⟩ | ⟨a4, c4, x1, x2, p, q, code2, value2, codes2, g1, g2, g3, g4, g5, g6, g7⟩
  case inr =>
    refine Or.inr ⟨a4, x1, x2, p, q, code2, value2, codes2, upd cl tx (cl tx + nI 1), upd tf (140 * tx + k) (nI s'), upd sf (140 * tx + k) (upd tf (140 * tx + k) (nI s') (140 * tx + k)), upd st (140 * tx + k) (codes2 tx), g1, ?_, ?_, frm_b g6 g7 (by omega) _ _ _ _⟩
    · simp (disch := omega) only [b_X1_readsClause_51, g2, neg_nI, lit_nI, nI_add, pk_mul, pk_sub, nI_clamp, inB_nI, gd_true, bnd_def, nI_leI, nI_ltI, nI_eq, nI_mI, mI_nI, nle_T, nle_F, nlt_T, nlt_F, neq_T, neq_F, ↓reduceIte, Nat.add_zero, Nat.zero_add, Nat.mul_zero, Nat.reduceAdd, Nat.reduceMul, Nat.reduceSub, ob1_e, ob2_e, ob3_e, ob4_e, ob6_e]
    · simp (disch := omega) only [b_X12_clause_128, b_X12_clause_166, b_X12_clause_167, g3, c184_0, neg_nI, lit_nI, nI_add, pk_mul, pk_sub, nI_clamp, inB_nI, gd_true, bnd_def, nI_leI, nI_ltI, nI_eq, nI_mI, mI_nI, nle_T, nle_F, nlt_T, nlt_F, neq_T, neq_F, ↓reduceIte, Nat.add_zero, Nat.zero_add, Nat.mul_zero, Nat.reduceAdd, Nat.reduceMul, Nat.reduceSub, ob1_e, ob2_e, ob3_e, ob4_e, ob6_e]
  obtain ⟨a5, c5, v1, v2, v3, v4, v5, v6, v7⟩ := sg_c hn h g2
  rcases cs_c v7 with ⟨z1, z2⟩ | ⟨r, z1, z0, z2⟩
  · have e2 := ap2 (f := cs) (r := lc) (o := s) (o1 := s + L.length) (A := L) (x := (14, 0)) (v := mI 13) rfl (by decide)
    have hl := XL_0l (S := L)
    refine Or.inl ⟨a5, hh, [], L, by omega, v2, by omega, g4, by omega, Or.inl rfl, ?_, ?_⟩
    · simp (disch := omega) only [b_X1_readsClause_51, g6, v3, z1, neg_nI, lit_nI, nI_add, pk_mul, pk_sub, nI_clamp, inB_nI, gd_true, bnd_def, nI_leI, nI_ltI, nI_eq, nI_mI, mI_nI, nle_T, nle_F, nlt_T, nlt_F, neq_T, neq_F, ↓reduceIte, Nat.add_zero, Nat.zero_add, Nat.mul_zero, Nat.reduceAdd, Nat.reduceMul, Nat.reduceSub, ob1_e, ob2_e, ob3_e, ob4_e, ob6_e]
      simp (disch := omega) only [b_X1_readsClause_95, neg_nI, lit_nI, nI_add, pk_mul, pk_sub, nI_clamp, inB_nI, gd_true, bnd_def, nI_leI, nI_ltI, nI_eq, nI_mI, mI_nI, nle_T, nle_F, nlt_T, nlt_F, neq_T, neq_F, ↓reduceIte, Nat.add_zero, Nat.zero_add, Nat.mul_zero, Nat.reduceAdd, Nat.reduceMul, Nat.reduceSub, ob1_e, ob2_e, ob3_e, ob4_e, ob6_e]
      simp (disch := omega) only [b_X1_readsClause_126, neg_nI, lit_nI, nI_add, pk_mul, pk_sub, nI_clamp, inB_nI, gd_true, bnd_def, nI_leI, nI_ltI, nI_eq, nI_mI, mI_nI, nle_T, nle_F, nlt_T, nlt_F, neq_T, neq_F, ↓reduceIte, Nat.add_zero, Nat.zero_add, Nat.mul_zero, Nat.reduceAdd, Nat.reduceMul, Nat.reduceSub, ob1_e, ob2_e, ob3_e, ob4_e, ob6_e]
      unfold b_X1_readsClause_161
      rw [show (-13 : Int32) = mI 13 from rfl, putX (by omega), ob3_e, isZ_1, gd_true, e2, hl, XL_0, show s + L.length + 1 = s + (L.length + 1) by omega]
    · simp (disch := omega) only [b_X12_clause_128, b_X12_clause_166, b_X12_clause_167, g7, v4, z2, c184_0, upd_s, hcl, List.nil_append, List.length_nil, neg_nI, lit_nI, nI_add, pk_mul, pk_sub, nI_clamp, inB_nI, gd_true, bnd_def, nI_leI, nI_ltI, nI_eq, nI_mI, mI_nI, nle_T, nle_F, nlt_T, nlt_F, neq_T, neq_F, ↓reduceIte, Nat.add_zero, Nat.zero_add, Nat.mul_zero, Nat.reduceAdd, Nat.reduceMul, Nat.reduceSub, ob1_e, ob2_e, ob3_e, ob4_e, ob6_e]
  · have hX : b_X1_readsClause_51 (nI n) t llT (nI a3) (nI s) lc (nI 0) = ob4 (f_X1_readsComparison (nI n) t llT (nI a5) (nI (s + L.length)) (ap cs lc s L) (nI 0)) fun r_1 at2 s3 c4 => if r_1 = nI 0 then some (nI 0, at2, s3, c4) else ob4 (f_X1_readsMoreUnits 60 (nI n) t llT at2 s3 c4 (nI 0)) fun r_6 at7 s8 c9 => if r_6 = nI 0 then some (nI 0, at7, s8, c9) else ob4 (f_X1_readsMoreTruths 60 (nI n) t llT at7 s8 c9 (nI 0)) fun r_11 at12 s13 c14 => if r_11 = nI 0 then some (nI 0, at12, s13, c14) else b_X1_readsClause_126 (nI n) t llT at12 s13 c14 (nI 1) := by
      simp (disch := omega) only [b_X1_readsClause_51, b_X1_readsClause_95, g6, v3, z1, z0, neg_nI, lit_nI, nI_add, pk_mul, pk_sub, nI_clamp, inB_nI, gd_true, bnd_def, nI_leI, nI_ltI, nI_eq, nI_mI, mI_nI, nle_T, nle_F, nlt_T, nlt_F, neq_T, neq_F, ↓reduceIte, Nat.add_zero, Nat.zero_add, Nat.mul_zero, Nat.reduceAdd, Nat.reduceMul, Nat.reduceSub, ob1_e, ob2_e, ob3_e, ob4_e, ob6_e]
    have hY : b_X12_clause_128 (nI n) (nI tx) u (nI a3) (mI 1) (nI 0) code value codes cl (upd tf (140 * tx + k) (nI s')) sf st (nI (140 * tx + k)) (nI 0) = ob6 (f_X12_compare (nI n) (nI tx) u (nI a5) (mI 1) (nI 0) (ap tc code (520 * tx + s') L) (ap tv value (520 * tx + s') L) (upd codes tx (nI (s' + L.length)))) fun p w q c2 v3 cc => ob6 (f_X12_goOnAnd 60 (nI n) (nI tx) u p w q c2 v3 cc) fun p w q c2 v3 cc => ob6 (f_X12_goOnOr 60 (nI n) (nI tx) u p w q c2 v3 cc) fun p w q c2 v3 cc => b_X12_clause_184 (nI n) (nI tx) u p w q c2 v3 cc cl (upd tf (140 * tx + k) (nI s')) sf st (nI (140 * tx + k)) (nI 1) := by
      simp (disch := omega) only [b_X12_clause_128, b_X12_clause_167, g7, v4, z2, neg_nI, lit_nI, nI_add, pk_mul, pk_sub, nI_clamp, inB_nI, gd_true, bnd_def, nI_leI, nI_ltI, nI_eq, nI_mI, mI_nI, nle_T, nle_F, nlt_T, nlt_F, neq_T, neq_F, ↓reduceIte, Nat.add_zero, Nat.zero_add, Nat.mul_zero, Nat.reduceAdd, Nat.reduceMul, Nat.reduceSub, ob1_e, ob2_e, ob3_e, ob4_e, ob6_e]
    rw [hX, hY]
    have W1 := and_W (n := n) (u := u) 60 (by omega)
    have W2 := or_W (n := n) (u := u) 60 (by omega)
    rcases cmp_o hn h tb (dp := 0) (by omega) a3 a5 s s' tx hh lc code value codes L v2 (by omega) (by omega) (by omega) (by omega) htx hc g4 (by omega) with ⟨L1, a6, h6, w1, w2, w3, w4, w5, w6, w7⟩ | ⟨a6, c6, x1, x2, p, q, code2, value2, codes2, w1, w2, w3, w4, w5, w6, w7⟩
    case inr =>
      refine Or.inr ⟨a6, x1, x2, p, q, code2, value2, codes2, upd cl tx (cl tx + nI 1), upd tf (140 * tx + k) (nI s'), upd sf (140 * tx + k) (upd tf (140 * tx + k) (nI s') (140 * tx + k)), upd st (140 * tx + k) (codes2 tx), w1, ?_, ?_, frm_b w6 w7 (by omega) _ _ _ _⟩
      · rw [w2, ob4_e, if_pos rfl]
      · rw [w3, ob6_e, W1 tx a6 p q code2 value2 codes2 (by omega), ob6_e, W2 tx a6 p q code2 value2 codes2 (by omega), ob6_e, c184_w htx (by omega) (by omega)]
    rw [w6, w7, ob4_e, ob6_e, if_neg (by decide)]
    rcases and60 hn h tb a3 a6 s s' tx h6 lc code value codes L1 w2 (by omega) (by omega) (by omega) (by omega) htx hc w4 (by omega) with ⟨L2, a7, h7, m1, m2, m3, m4, m5, m6, m7⟩ | ⟨a7, c7, x1, x2, p, q, code2, value2, codes2, m1, m2, m3, m4, m5, m6, m7⟩
    case inr =>
      refine Or.inr ⟨a7, x1, x2, p, q, code2, value2, codes2, upd cl tx (cl tx + nI 1), upd tf (140 * tx + k) (nI s'), upd sf (140 * tx + k) (upd tf (140 * tx + k) (nI s') (140 * tx + k)), upd st (140 * tx + k) (codes2 tx), m1, ?_, ?_, frm_b m6 m7 (by omega) _ _ _ _⟩
      · rw [m2, ob4_e, if_pos rfl]
      · rw [m3, ob6_e, W2 tx a7 p q code2 value2 codes2 (by omega), ob6_e, c184_w htx (by omega) (by omega)]
    rw [m6, m7, ob4_e, ob6_e, if_neg (by decide)]
    rcases or60 hn h tb a3 a7 s s' tx h7 lc code value codes L2 m2 (by omega) (by omega) (by omega) (by omega) htx hc m4 (by omega) with ⟨L3, a8, h8, o1, o2, o3, o4, o5, o6, o7⟩ | ⟨a8, c8, x1, x2, p, q, code2, value2, codes2, o1, o2, o3, o4, o5, o6, o7⟩
    case inr =>
      refine Or.inr ⟨a8, x1, x2, p, q, code2, value2, codes2, upd cl tx (cl tx + nI 1), upd tf (140 * tx + k) (nI s'), upd sf (140 * tx + k) (upd tf (140 * tx + k) (nI s') (140 * tx + k)), upd st (140 * tx + k) (codes2 tx), o1, ?_, ?_, frm_b o6 o7 (by omega) _ _ _ _⟩
      · rw [o2, ob4_e, if_pos rfl]
      · rw [o3, ob6_e, c184_w htx (by omega) (by omega)]
    rw [o6, o7, ob4_e, ob6_e, if_neg (by decide)]
    exact qu_o hn h tb htx hk hcl o2 (by omega) hs hs' o4 (by omega) hc
end CM
end
section
/-! a law is read by both -/
abbrev Cl : Type := List Tok × List Tok
def XS : List Cl → List Tok
  | [] => []
  | C :: r => XL C.1 C.2 ++ XS r
def YS : List Cl → List Tok
  | [] => []
  | C :: r => (C.1 ++ C.2) ++ YS r
theorem XS_sn : ∀ (A : List Cl) (C : Cl), XS (A ++ [C]) = XS A ++ XL C.1 C.2
  | [], C => by show XL C.1 C.2 ++ [] = [] ++ _; rw [List.append_nil, List.nil_append]
  | D :: A, C => by show XL D.1 D.2 ++ XS (A ++ [C]) = (XL D.1 D.2 ++ XS A) ++ _; rw [XS_sn A C, List.append_assoc]
theorem YS_sn : ∀ (A : List Cl) (C : Cl), YS (A ++ [C]) = YS A ++ (C.1 ++ C.2)
  | [], C => by show (C.1 ++ C.2) ++ [] = [] ++ _; rw [List.append_nil, List.nil_append]
  | D :: A, C => by show (D.1 ++ D.2) ++ YS (A ++ [C]) = ((D.1 ++ D.2) ++ YS A) ++ _; rw [YS_sn A C]; exact (List.append_assoc _ _ _).symm
/-- where the clauses lie in the model's rows -/
def WR (tf sf st : Nat → Int32) : Nat → Nat → List Cl → Prop
  | _, _, [] => True
  | p, o, C :: r => (tf p = nI o ∧ sf p = nI (o + C.1.length) ∧ st p = nI (o + (C.1 ++ C.2).length)) ∧ WR tf sf st (p + 1) (o + (C.1 ++ C.2).length) r
theorem WR_sn {tf sf st tf' sf' st' : Nat → Int32} {C : Cl} : ∀ (A : List Cl) (p o : Nat), WR tf sf st p o A → (∀ i, p ≤ i → i < p + A.length → tf' i = tf i ∧ sf' i = sf i ∧ st' i = st i) → tf' (p + A.length) = nI (o + (YS A).length) → sf' (p + A.length) = nI (o + (YS A).length + C.1.length) → st' (p + A.length) = nI (o + (YS A).length + (C.1 ++ C.2).length) → WR tf' sf' st' p o (A ++ [C])
  | [], p, o, _, _, e1, e2, e3 => ⟨⟨e1, e2, e3⟩, trivial⟩
  | D :: A, p, o, h, hi, e1, e2, e3 => by
    obtain ⟨⟨h1, h2, h3⟩, h4⟩ := h
    have hl : (D :: A).length = A.length + 1 := rfl
    have hy : (YS (D :: A)).length = (D.1 ++ D.2).length + (YS A).length := by show ((D.1 ++ D.2) ++ YS A).length = _; rw [List.length_append]
    rw [hl] at hi e1 e2 e3
    rw [hy] at e1 e2 e3
    obtain ⟨j1, j2, j3⟩ := hi p (by omega) (by omega)
    refine ⟨⟨by rw [j1, h1], by rw [j2, h2], by rw [j3, h3]⟩, WR_sn A (p + 1) _ h4 (fun i a b => hi i (by omega) (by omega)) ?_ ?_ ?_⟩
    · rw [show p + 1 + A.length = p + (A.length + 1) by omega, e1]; congr 1; omega
    · rw [show p + 1 + A.length = p + (A.length + 1) by omega, e2]; congr 1; omega
    · rw [show p + 1 + A.length = p + (A.length + 1) by omega, e3]; congr 1; omega
def OKC (C : Cl) : Prop := (∃ h, h ≤ 20 ∧ Ex C.2 h) ∧ (C.1 = [] ∨ ∃ h, h ≤ 20 ∧ Ex C.1 h)
abbrev LT : Type := Int32 × Int32 × Int32 × Int32 × Int32 × (Nat → Int32) × (Nat → Int32) × (Nat → Int32) × (Nat → Int32) × (Nat → Int32) × (Nat → Int32) × (Nat → Int32)
def LAg (n tx : Nat) (lc code value codes cl tf sf st : Nat → Int32) (x : Option XT) (y : Option LT) : Prop := ∃ (CS : List Cl) (codes2 cl2 tf2 sf2 st2 : Nat → Int32), (∀ C, C ∈ CS → OKC C) ∧ (XS CS).length ≤ 240 ∧ (YS CS).length ≤ 240 ∧ CS.length ≤ 80 ∧ x = some (nI 1, nI n, nI (XS CS).length, ap cs lc 0 (XS CS)) ∧ y = some (mI 1, nI n, mI 1, nI 0, nI tx, ap tc code (520 * tx) (YS CS), ap tv value (520 * tx) (YS CS), codes2, cl2, tf2, sf2, st2) ∧ cl2 tx = nI CS.length ∧ WR tf2 sf2 st2 (140 * tx) 0 CS ∧ FRM tx code value codes cl tf sf st (ap tc code (520 * tx) (YS CS)) (ap tv value (520 * tx) (YS CS)) codes2 cl2 tf2 sf2 st2
def LAb (n tx : Nat) (code value codes cl tf sf st : Nat → Int32) (x : Option XT) (y : Option LT) : Prop := ∃ (a : Nat) (x1 : Int32) (x2 : Nat → Int32) (p q : Int32) (code2 value2 codes2 cl2 tf2 sf2 st2 : Nat → Int32), a ≤ n ∧ x = some (nI 0, nI a, x1, x2) ∧ y = some (nI a, p, nI a, q, nI tx, code2, value2, codes2, cl2, tf2, sf2, st2) ∧ FRM tx code value codes cl tf sf st code2 value2 codes2 cl2 tf2 sf2 st2
def LAO (n tx : Nat) (lc code value codes cl tf sf st : Nat → Int32) (x : Option XT) (y : Option LT) : Prop := LAg n tx lc code value codes cl tf sf st x y ∨ LAb n tx code value codes cl tf sf st x y
theorem FRM.trans {tx : Nat} {a1 a2 a3 a4 a5 a6 a7 b1 b2 b3 b4 b5 b6 b7 c1 c2 c3 c4 c5 c6 c7 : Nat → Int32} (h : FRM tx a1 a2 a3 a4 a5 a6 a7 b1 b2 b3 b4 b5 b6 b7) (g : FRM tx b1 b2 b3 b4 b5 b6 b7 c1 c2 c3 c4 c5 c6 c7) : FRM tx a1 a2 a3 a4 a5 a6 a7 c1 c2 c3 c4 c5 c6 c7 := by
  obtain ⟨h1, h2, h3⟩ := h
  obtain ⟨g1, g2, g3⟩ := g
  refine ⟨fun i hi => ⟨(g1 i hi).1.trans (h1 i hi).1, (g1 i hi).2.trans (h1 i hi).2⟩, fun i hi => ⟨(g2 i hi).1.trans (h2 i hi).1, (g2 i hi).2.trans (h2 i hi).2⟩, fun i hi => ⟨(g3 i hi).1.trans (h3 i hi).1, (g3 i hi).2.1.trans (h3 i hi).2.1, (g3 i hi).2.2.trans (h3 i hi).2.2⟩⟩
section LR
variable {n : Nat} {t u llT : Nat → Int32}
theorem YX_le : ∀ (A : List Cl), (YS A).length + A.length ≤ (XS A).length
  | [] => Nat.le_refl _
  | C :: A => by
    have ih := YX_le A
    have e1 : (YS (C :: A)).length = (C.1 ++ C.2).length + (YS A).length := by show ((C.1 ++ C.2) ++ YS A).length = _; rw [List.length_append]
    have e2 : (XS (C :: A)).length = (XL C.1 C.2).length + (XS A).length := by show (XL C.1 C.2 ++ XS A).length = _; rw [List.length_append]
    have e3 : (C.1 ++ C.2).length = C.1.length + C.2.length := List.length_append
    have e4 : (XL C.1 C.2).length ≥ C.1.length + C.2.length + 1 := by
      by_cases q : C.1 = []
      · rw [q, XL_0l]; show _ ≥ 0 + _ + 1; omega
      · rw [XL_1l q]; omega
    have e5 : (C :: A).length = A.length + 1 := rfl
    omega
theorem la_l (hn : n ≤ 240) (h : RT n t u) (tb : LT6 llT) {tx : Nat} {lc code value codes0 cl0 tf0 sf0 st0 : Nat → Int32} (htx : tx ≤ 4) : ∀ (j a : Nat) (CS : List Cl) (codes cl tf sf st : Nat → Int32), n < a + j → a ≤ n → (XS CS).length ≤ a → 3 * CS.length ≤ a → (∀ C, C ∈ CS → OKC C) → codes tx = nI (YS CS).length → cl tx = nI CS.length → WR tf sf st (140 * tx) 0 CS → FRM tx code value codes0 cl0 tf0 sf0 st0 (ap tc code (520 * tx) (YS CS)) (ap tv value (520 * tx) (YS CS)) codes cl tf sf st → ∀ kx ky, j ≤ kx → j ≤ ky → LAO n tx lc code value codes0 cl0 tf0 sf0 st0 (f_X1_readsAll_15 (nI n) t llT kx (nI a) (nI (XS CS).length) (ap cs lc 0 (XS CS)) (nI CS.length)) (ob10 (f_X12_clause (nI n) (nI tx) u (nI a) (mI 1) (nI 0) (ap tc code (520 * tx) (YS CS)) (ap tv value (520 * tx) (YS CS)) codes cl tf sf st) fun a5 w6 d7 c8 v9 cc10 cl11 tf12 sf13 st14 => f_X12_readLaw_9 (nI n) u ky a5 w6 d7 (nI tx) c8 v9 cc10 cl11 tf12 sf13 st14)
  | 0, a, CS, codes, cl, tf, sf, st, hj, ha, h1, h2, h3, h4, h5, h6, h7, kx, ky, hkx, hky => by omega
  | j + 1, a, CS, codes, cl, tf, sf, st, hj, ha, h1, h2, h3, h4, h5, h6, h7, kx, ky, hkx, hky => by
    obtain ⟨kx, rfl⟩ : ∃ k, kx = k + 1 := ⟨kx - 1, by omega⟩
    obtain ⟨ky, rfl⟩ : ∃ k, ky = k + 1 := ⟨ky - 1, by omega⟩
    have hyx := YX_le CS
    have hlim : ¬ ((240 : Int32) < nI CS.length) := by rw [lit_nI, nI_ltI (by omega) (by omega)]; exact Nat.not_lt.mpr (by omega)
    have uy : ∀ k x1 x2 x3 x4 x5 x6 x7 x8 x9 y1 y2, f_X12_readLaw_9 (nI n) u (k + 1) x1 x2 x3 x4 x5 x6 x7 x8 x9 y1 y2 = b_X12_readLaw_9 (nI n) u (f_X12_readLaw_9 (nI n) u k) x1 x2 x3 x4 x5 x6 x7 x8 x9 y1 y2 := fun _ _ _ _ _ _ _ _ _ _ _ _ => rfl
    rw [show f_X1_readsAll_15 (nI n) t llT (kx + 1) (nI a) (nI (XS CS).length) (ap cs lc 0 (XS CS)) (nI CS.length) = b_X1_readsAll_15 (nI n) t llT (f_X1_readsAll_15 (nI n) t llT kx) (nI a) (nI (XS CS).length) (ap cs lc 0 (XS CS)) (nI CS.length) from rfl]
    unfold b_X1_readsAll_15
    rw [if_neg hlim]
    rcases clause_o hn h tb (tx := tx) (k := CS.length) (s := (XS CS).length) (s' := (YS CS).length) (a := a) (lc := ap cs lc 0 (XS CS)) (code := ap tc code (520 * tx) (YS CS)) (value := ap tv value (520 * tx) (YS CS)) (codes := codes) (cl := cl) (tf := tf) (sf := sf) (st := st) htx (by omega) h5 ha h1 (by omega) h4 with ⟨a2, hS, T, S, g1, g2, g3, g4, g5, g6, g7, g8⟩ | ⟨a2, x1, x2, p, q, code2, value2, codes2, cl2, tf2, sf2, st2, g1, g2, g3, g4⟩
    · have eX : XS (CS ++ [(T, S)]) = XS CS ++ XL T S := XS_sn CS (T, S)
      have eY : YS (CS ++ [(T, S)]) = YS CS ++ (T ++ S) := YS_sn CS (T, S)
      have lX : (XS (CS ++ [(T, S)])).length = (XS CS).length + (XL T S).length := by rw [eX, List.length_append]
      have lY : (YS (CS ++ [(T, S)])).length = (YS CS).length + (T ++ S).length := by rw [eY, List.length_append]
      have lC : (CS ++ [(T, S)]).length = CS.length + 1 := by rw [List.length_append]; rfl
      have aX : ap cs (ap cs lc 0 (XS CS)) (XS CS).length (XL T S) = ap cs lc 0 (XS (CS ++ [(T, S)])) := by
        rw [eX, ← ap_app, Nat.zero_add]
      have aY : ap tc (ap tc code (520 * tx) (YS CS)) (520 * tx + (YS CS).length) (T ++ S) = ap tc code (520 * tx) (YS (CS ++ [(T, S)])) := by rw [eY]; exact ap_app tc (YS CS) (T ++ S) code (520 * tx)
      have aV : ap tv (ap tv value (520 * tx) (YS CS)) (520 * tx + (YS CS).length) (T ++ S) = ap tv value (520 * tx) (YS (CS ++ [(T, S)])) := by rw [eY]; exact ap_app tv (YS CS) (T ++ S) value (520 * tx)
      have hyx2 := YX_le (CS ++ [(T, S)])
      rw [← lX, aX] at g7
      rw [← lY, aY, aV, ← lC] at g8
      have hok : ∀ C, C ∈ CS ++ [(T, S)] → OKC C := by
        intro C hC
        rcases List.mem_append.mp hC with q | q
        · exact h3 C q
        · rw [List.mem_singleton.mp q]
          exact ⟨⟨hS, g5, g4⟩, g6⟩
      have hW : WR (upd tf (140 * tx + CS.length) (nI (YS CS).length)) (upd sf (140 * tx + CS.length) (nI ((YS CS).length + T.length))) (upd st (140 * tx + CS.length) (nI (YS (CS ++ [(T, S)])).length)) (140 * tx) 0 (CS ++ [(T, S)]) := by
        refine WR_sn CS (140 * tx) 0 h6 (fun i q1 q2 => ?_) ?_ ?_ ?_
        · rw [upd_n (by omega), upd_n (by omega), upd_n (by omega)]; exact ⟨rfl, rfl, rfl⟩
        · rw [upd_s, Nat.zero_add]
        · rw [upd_s, Nat.zero_add]
        · rw [upd_s, Nat.zero_add, lY]
      have hF : FRM tx code value codes0 cl0 tf0 sf0 st0 (ap tc code (520 * tx) (YS (CS ++ [(T, S)]))) (ap tv value (520 * tx) (YS (CS ++ [(T, S)]))) (upd codes tx (nI (YS (CS ++ [(T, S)])).length)) (upd cl tx (nI (CS ++ [(T, S)]).length)) (upd tf (140 * tx + CS.length) (nI (YS CS).length)) (upd sf (140 * tx + CS.length) (nI ((YS CS).length + T.length))) (upd st (140 * tx + CS.length) (nI (YS (CS ++ [(T, S)])).length)) := by
        refine h7.trans ⟨fun i hi => ?_, fun i hi => ?_, fun i hi => ?_⟩
        · rw [← aY, ← aV]; exact ⟨ap_out tc _ _ _ (by omega), ap_out tv _ _ _ (by omega)⟩
        · rw [upd_n hi, upd_n hi]; exact ⟨rfl, rfl⟩
        · rw [upd_n (by omega), upd_n (by omega), upd_n (by omega)]; exact ⟨rfl, rfl, rfl⟩
      rw [g7, g8, ob4_e, ob10_e, if_neg (show ¬ nI 1 = (0 : Int32) by decide), uy]
      obtain ⟨a3, c3, r1, r2, r3, r4, r5, r6, r7⟩ := sg_c hn h g2
      rcases r7 with ⟨ec, en⟩ | ⟨b, b0, b1, b2, ec, hb, et, eu⟩
      · subst ec
        subst en
        refine Or.inl ⟨CS ++ [(T, S)], _, _, _, _, _, hok, by omega, by omega, by omega, ?_, ?_, upd_s, hW, hF⟩
        · simp (disch := omega) only [r3, neg_nI, lit_nI, nI_add, pk_mul, pk_sub, nI_clamp, inB_nI, gd_true, bnd_def, nI_leI, nI_ltI, nI_eq, nI_mI, mI_nI, nle_T, nle_F, nlt_T, nlt_F, neq_T, neq_F, ↓reduceIte, Nat.add_zero, Nat.zero_add, Nat.mul_zero, Nat.reduceAdd, Nat.reduceMul, Nat.reduceSub, ob1_e, ob2_e, ob3_e, ob4_e, ob6_e]
        · simp (disch := omega) only [b_X12_readLaw_9, b_X12_readLaw_43, f_X12_atEnd, b_X12_atEnd_0, b_X12_atEnd_20, r4, r6, ob3_e, neg_nI, lit_nI, nI_add, pk_mul, pk_sub, nI_clamp, inB_nI, gd_true, bnd_def, nI_leI, nI_ltI, nI_eq, nI_mI, mI_nI, nle_T, nle_F, nlt_T, nlt_F, neq_T, neq_F, ↓reduceIte, Nat.add_zero, Nat.zero_add, Nat.mul_zero, Nat.reduceAdd, Nat.reduceMul, Nat.reduceSub, ob1_e, ob2_e, ob3_e, ob4_e, ob6_e]
      · subst ec
        by_cases q : b = 59
        · subst q
          have ih := la_l (lc := lc) (code := code) (value := value) (codes0 := codes0) (cl0 := cl0) (tf0 := tf0) (sf0 := sf0) (st0 := st0) hn h tb htx j (a3 + 1) (CS ++ [(T, S)]) _ _ _ _ _ (by omega) (by omega) (by omega) (by omega) hok upd_s upd_s hW hF kx ky (by omega) (by omega)
          rw [lC] at ih ⊢
          have ex : (ob2 (f_X10_sign (nI n) t (nI a2)) fun r_6 tape_at_7 => if r_6 = (-1 : Int32) then some ((1 : Int32), tape_at_7, nI (XS (CS ++ [(T, S)])).length, ap cs lc 0 (XS (CS ++ [(T, S)]))) else ob2 (f_X10_take (nI n) t tape_at_7 (59 : Int32)) fun r_9 tape_at_10 => if r_9 = (0 : Int32) then some ((0 : Int32), tape_at_10, nI (XS (CS ++ [(T, S)])).length, ap cs lc 0 (XS (CS ++ [(T, S)]))) else bnd (nI CS.length + (1 : Int32)) fun v1_12 => f_X1_readsAll_15 (nI n) t llT kx tape_at_10 (nI (XS (CS ++ [(T, S)])).length) (ap cs lc 0 (XS (CS ++ [(T, S)]))) v1_12) = f_X1_readsAll_15 (nI n) t llT kx (nI (a3 + 1)) (nI (XS (CS ++ [(T, S)])).length) (ap cs lc 0 (XS (CS ++ [(T, S)]))) (nI (CS.length + 1)) := by
            simp (disch := omega) only [r3, f_X10_take, b_X10_take_0, r5, neg_nI, lit_nI, nI_add, pk_mul, pk_sub, nI_clamp, inB_nI, gd_true, bnd_def, nI_leI, nI_ltI, nI_eq, nI_mI, mI_nI, nle_T, nle_F, nlt_T, nlt_F, neq_T, neq_F, ↓reduceIte, Nat.add_zero, Nat.zero_add, Nat.mul_zero, Nat.reduceAdd, Nat.reduceMul, Nat.reduceSub, ob1_e, ob2_e, ob3_e, ob4_e, ob6_e]
          have ey : ∀ cdN clN tfN sfN stN, b_X12_readLaw_9 (nI n) u (f_X12_readLaw_9 (nI n) u ky) (nI a2) (mI 1) (nI 0) (nI tx) (ap tc code (520 * tx) (YS (CS ++ [(T, S)]))) (ap tv value (520 * tx) (YS (CS ++ [(T, S)]))) cdN clN tfN sfN stN = ob10 (f_X12_clause (nI n) (nI tx) u (nI (a3 + 1)) (mI 1) (nI 0) (ap tc code (520 * tx) (YS (CS ++ [(T, S)]))) (ap tv value (520 * tx) (YS (CS ++ [(T, S)]))) cdN clN tfN sfN stN) fun a5 w6 d7 c8 v9 cc10 cl11 tf12 sf13 st14 => f_X12_readLaw_9 (nI n) u ky a5 w6 d7 (nI tx) c8 v9 cc10 cl11 tf12 sf13 st14 := by
            intro cdN clN tfN sfN stN
            simp (disch := omega) only [b_X12_readLaw_9, r4, neg_nI, lit_nI, nI_add, pk_mul, pk_sub, nI_clamp, inB_nI, gd_true, bnd_def, nI_leI, nI_ltI, nI_eq, nI_mI, mI_nI, nle_T, nle_F, nlt_T, nlt_F, neq_T, neq_F, ↓reduceIte, Nat.add_zero, Nat.zero_add, Nat.mul_zero, Nat.reduceAdd, Nat.reduceMul, Nat.reduceSub, ob1_e, ob2_e, ob3_e, ob4_e, ob6_e]
          rw [ey]
          exact ex ▸ ih
        · refine Or.inr ⟨a3, nI (XS (CS ++ [(T, S)])).length, ap cs lc 0 (XS (CS ++ [(T, S)])), nI a3, nI 0, _, _, _, _, _, _, _, r2, ?_, ?_, hF⟩
          · simp (disch := omega) only [r3, f_X10_take, b_X10_take_0, r5, neg_nI, lit_nI, nI_add, pk_mul, pk_sub, nI_clamp, inB_nI, gd_true, bnd_def, nI_leI, nI_ltI, nI_eq, nI_mI, mI_nI, nle_T, nle_F, nlt_T, nlt_F, neq_T, neq_F, ↓reduceIte, Nat.add_zero, Nat.zero_add, Nat.mul_zero, Nat.reduceAdd, Nat.reduceMul, Nat.reduceSub, ob1_e, ob2_e, ob3_e, ob4_e, ob6_e]
          · simp (disch := omega) only [b_X12_readLaw_9, b_X12_readLaw_43, f_X12_atEnd, b_X12_atEnd_0, b_X12_atEnd_20, r4, r6, bad_n, ob3_e, neg_nI, lit_nI, nI_add, pk_mul, pk_sub, nI_clamp, inB_nI, gd_true, bnd_def, nI_leI, nI_ltI, nI_eq, nI_mI, mI_nI, nle_T, nle_F, nlt_T, nlt_F, neq_T, neq_F, ↓reduceIte, Nat.add_zero, Nat.zero_add, Nat.mul_zero, Nat.reduceAdd, Nat.reduceMul, Nat.reduceSub, ob1_e, ob2_e, ob3_e, ob4_e, ob6_e]
    · refine Or.inr ⟨a2, x1, x2, p, q, code2, value2, codes2, cl2, tf2, sf2, st2, g1, ?_, ?_, h7.trans g4⟩
      · rw [g2, ob4_e, if_pos (show nI 0 = (0 : Int32) from rfl)]; rfl
      · rw [g3, ob10_e, uy]
        simp (disch := omega) only [b_X12_readLaw_9, b_X12_readLaw_43, f_X12_atEnd, b_X12_atEnd_0, b_X12_atEnd_20, ob3_e, neg_nI, lit_nI, nI_add, pk_mul, pk_sub, nI_clamp, inB_nI, gd_true, bnd_def, nI_leI, nI_ltI, nI_eq, nI_mI, mI_nI, nle_T, nle_F, nlt_T, nlt_F, neq_T, neq_F, ↓reduceIte, Nat.add_zero, Nat.zero_add, Nat.mul_zero, Nat.reduceAdd, Nat.reduceMul, Nat.reduceSub, ob1_e, ob2_e, ob3_e, ob4_e, ob6_e]
/-- a law by both -/
theorem s_readLaw (hn : n ≤ 240) (h : RT n t u) (tb : LT6 llT) {tx : Nat} (htx : tx ≤ 4) (x1 x2 y1 y2 y3 y4 : Int32) (lc code value codes cl tf sf st : Nat → Int32) : LAO n tx lc code value codes cl tf sf st (f_X1_readsAll (nI n) t llT x1 x2 lc) (f_X12_readLaw (nI n) u y1 y2 y3 y4 code value codes cl tf sf st (nI tx)) := by
  have hf := fu_le
  have hF : FRM tx code value codes cl tf sf st code value (upd codes tx (nI 0)) (upd cl tx (nI 0)) tf sf st := ⟨fun _ _ => ⟨rfl, rfl⟩, fun i hi => ⟨upd_n hi, upd_n hi⟩, fun _ _ => ⟨rfl, rfl, rfl⟩⟩
  have := la_l (lc := lc) (code := code) (value := value) (codes0 := codes) (cl0 := cl) (tf0 := tf) (sf0 := sf) (st0 := st) hn h tb htx (n + 1) 0 [] (upd codes tx (nI 0)) (upd cl tx (nI 0)) tf sf st (by omega) (by omega) (Nat.le_refl _) (Nat.le_refl _) (fun C hC => by cases hC) upd_s upd_s trivial hF fu fu (by omega) (by omega)
  have ey : f_X12_readLaw (nI n) u y1 y2 y3 y4 code value codes cl tf sf st (nI tx) = ob10 (f_X12_clause (nI n) (nI tx) u (nI 0) (mI 1) (nI 0) code value (upd codes tx (nI 0)) (upd cl tx (nI 0)) tf sf st) fun a5 w6 d7 c8 v9 cc10 cl11 tf12 sf13 st14 => f_X12_readLaw_9 (nI n) u fu a5 w6 d7 (nI tx) c8 v9 cc10 cl11 tf12 sf13 st14 := by
    simp (disch := omega) only [f_X12_readLaw, b_X12_readLaw_0, f_X12_open, b_X12_open_0, neg_nI, lit_nI, nI_add, pk_mul, pk_sub, nI_clamp, inB_nI, gd_true, bnd_def, nI_leI, nI_ltI, nI_eq, nI_mI, mI_nI, nle_T, nle_F, nlt_T, nlt_F, neq_T, neq_F, ↓reduceIte, Nat.add_zero, Nat.zero_add, Nat.mul_zero, Nat.reduceAdd, Nat.reduceMul, Nat.reduceSub, ob1_e, ob2_e, ob3_e, ob4_e, ob6_e]
  rw [ey]
  exact this
end LR
end
