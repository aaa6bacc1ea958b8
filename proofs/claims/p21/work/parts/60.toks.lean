/-! the tokens of a law -/
abbrev Tok : Type := Nat × Nat
def cs (x : Tok) : Int32 := if x.1 = 0 then nI x.2 else if x.1 = 1 then mI (14 + x.2) else if x.1 ≤ 8 then mI x.1 else if x.1 = 9 then mI 11 else mI (x.1 - 1)
def tc (x : Tok) : Int32 := nI x.1
def tv (x : Tok) : Int32 := nI x.2
/-- tokens behind a place -/
def ap (f : Tok → Int32) (r : Nat → Int32) (o : Nat) : List Tok → (Nat → Int32)
  | [] => r
  | x :: l => ap f (upd r o (f x)) (o + 1) l
theorem ap_app (f : Tok → Int32) : ∀ (A B : List Tok) (r : Nat → Int32) (o : Nat), ap f (ap f r o A) (o + A.length) B = ap f r o (A ++ B)
  | [], B, r, o => rfl
  | x :: A, B, r, o => by
    show ap f (ap f (upd r o (f x)) (o + 1) A) (o + (A.length + 1)) B = ap f (upd r o (f x)) (o + 1) (A ++ B)
    rw [← ap_app f A B (upd r o (f x)) (o + 1), show o + (A.length + 1) = o + 1 + A.length by omega]
theorem ap_1 (f : Tok → Int32) (r : Nat → Int32) (o : Nat) (x : Tok) : ap f r o [x] = upd r o (f x) := rfl
theorem ap_out (f : Tok → Int32) {i : Nat} : ∀ (L : List Tok) (r : Nat → Int32) (o : Nat), (i < o ∨ o + L.length ≤ i) → ap f r o L i = r i
  | [], r, o, _ => rfl
  | x :: L, r, o, h => by
    replace h : i < o ∨ o + (L.length + 1) ≤ i := h
    show ap f (upd r o (f x)) (o + 1) L i = r i
    rw [ap_out f L _ _ (by omega), upd_n (by omega)]
theorem ap_in (f : Tok → Int32) : ∀ (L : List Tok) (r : Nat → Int32) (o i : Nat) (h : i < L.length), ap f r o L (o + i) = f L[i]
  | x :: L, r, o, 0, _ => by
    show ap f (upd r o (f x)) (o + 1) L o = f x
    rw [ap_out f L _ _ (by omega), upd_y rfl]
  | x :: L, r, o, i + 1, h => by
    have h' : i < L.length := Nat.lt_of_succ_lt_succ h
    show ap f (upd r o (f x)) (o + 1) L (o + (i + 1)) = f L[i]
    rw [show o + (i + 1) = o + 1 + i by omega, ap_in f L _ _ i h']
theorem upd_upd {f : Nat → Int32} {k : Nat} {x y : Int32} : upd (upd f k x) k y = upd f k y := by
  funext i
  by_cases e : i = k
  · rw [upd_y e, upd_y e]
  · rw [upd_n e, upd_n e, upd_n e]
theorem upd_same {f : Nat → Int32} {k : Nat} {x : Int32} (h : f k = x) : upd f k x = f := by
  funext i
  by_cases e : i = k
  · rw [upd_y e, e, h]
  · rw [upd_n e]
/-- a row of tokens that leaves one number on a stack, by at most h places -/
def Ex (L : List Tok) (h : Nat) : Prop := ∀ P : List Tok → Nat → Prop, (∀ v, v ≤ 9999 → P [(0, v)] 1) → (∀ l, l < 6 → P [(1, l)] 1) → (∀ k A B x y, 2 ≤ k ∧ k ≤ 11 ∧ k ≠ 9 → P A x → P B y → P (A ++ (B ++ [(k, 0)])) (max x (y + 1))) → (∀ A x, P A x → P (A ++ [(9, 0)]) x) → P L h
theorem Ex.num {v : Nat} (h : v ≤ 9999) : Ex [(0, v)] 1 := fun _ h1 _ _ _ => h1 v h
theorem Ex.ltr {l : Nat} (h : l < 6) : Ex [(1, l)] 1 := fun _ _ h2 _ _ => h2 l h
theorem Ex.bin {k x y : Nat} {A B : List Tok} (h : 2 ≤ k ∧ k ≤ 11 ∧ k ≠ 9) (hA : Ex A x) (hB : Ex B y) : Ex (A ++ (B ++ [(k, 0)])) (max x (y + 1)) := fun P h1 h2 h3 h4 => h3 k A B x y h (hA P h1 h2 h3 h4) (hB P h1 h2 h3 h4)
theorem Ex.nt {x : Nat} {A : List Tok} (hA : Ex A x) : Ex (A ++ [(9, 0)]) x := fun P h1 h2 h3 h4 => h4 A x (hA P h1 h2 h3 h4)
theorem Ex.pos {L : List Tok} {h : Nat} (e : Ex L h) : 0 < h := e (fun _ h => 0 < h) (fun _ _ => by omega) (fun _ _ => by omega) (fun _ _ _ _ _ _ _ _ => by omega) (fun _ _ h => h)
abbrev XT : Type := Int32 × Int32 × Int32 × (Nat → Int32)
abbrev YT : Type := Int32 × Int32 × Int32 × (Nat → Int32) × (Nat → Int32) × (Nat → Int32)
def BADL (n tx B : Nat) (code value codes : Nat → Int32) (x : Option XT) (y : Option YT) : Prop := ∃ (a c : Nat) (s2 : Int32) (lc2 : Nat → Int32) (p q : Int32) (code2 value2 codes2 : Nat → Int32), a ≤ n ∧ x = some (nI 0, nI a, s2, lc2) ∧ y = some (p, nI a, q, code2, value2, codes2) ∧ codes2 tx = nI c ∧ c ≤ B ∧ (∀ i, (i < 520 * tx ∨ 520 * tx + 520 ≤ i) → code2 i = code i ∧ value2 i = value i) ∧ ∀ i, i ≠ tx → codes2 i = codes i
def GOODL (n tx dp s s' a hh : Nat) (lc code value codes : Nat → Int32) (L : List Tok) (x : Option XT) (y : Option YT) : Prop := ∃ a' h, a < a' ∧ a' ≤ n ∧ a + L.length ≤ a' ∧ Ex L h ∧ h ≤ hh ∧ x = some (nI 1, nI a', nI (s + L.length), ap cs lc s L) ∧ y = some (nI a', mI 1, nI dp, ap tc code (520 * tx + s') L, ap tv value (520 * tx + s') L, upd codes tx (nI (s' + L.length)))
def OUTL (n tx dp s s' a hh B : Nat) (lc code value codes : Nat → Int32) (x : Option XT) (y : Option YT) : Prop := (∃ L, GOODL n tx dp s s' a hh lc code value codes L x y) ∨ BADL n tx B code value codes x y
section LW
variable {n : Nat} {t u llT : Nat → Int32}
theorem putX {s : Nat} {lc : Nat → Int32} {v : Int32} (h : s < 241) : f_X1_put (nI s) lc v = some (nI 1, nI (s + 1), upd lc s v) := by
  simp (disch := omega) only [f_X1_put, b_X1_put_0, neg_nI, lit_nI, nI_add, pk_mul, pk_sub, nI_clamp, inB_nI, gd_true, bnd_def, nI_leI, nI_ltI, nI_eq, nI_mI, mI_nI, nle_T, nle_F, nlt_T, nlt_F, neq_T, neq_F, ↓reduceIte, Nat.add_zero, Nat.zero_add, Nat.mul_zero, Nat.reduceAdd, Nat.reduceMul, Nat.reduceSub, ob1_e, ob2_e, ob3_e, ob4_e, ob6_e]
theorem putY {tx s : Nat} {code value codes : Nat → Int32} {k v : Int32} (ht : tx ≤ 4) (hs : s < 520) (e : codes tx = nI s) : f_X12_put (nI tx) code value codes k v = some (upd code (520 * tx + s) k, upd value (520 * tx + s) v, upd codes tx (nI (s + 1))) := by
  simp (disch := omega) only [f_X12_put, b_X12_put_0, e, neg_nI, lit_nI, nI_add, pk_mul, pk_sub, nI_clamp, inB_nI, gd_true, bnd_def, nI_leI, nI_ltI, nI_eq, nI_mI, mI_nI, nle_T, nle_F, nlt_T, nlt_F, neq_T, neq_F, ↓reduceIte, Nat.add_zero, Nat.zero_add, Nat.mul_zero, Nat.reduceAdd, Nat.reduceMul, Nat.reduceSub, ob1_e, ob2_e, ob3_e, ob4_e, ob6_e]
def LLl : List Nat := [102, 115, 119, 97, 112, 100]
def LT6 (llT : Nat → Int32) : Prop := ∀ i, i < 6 → llT i = nI (LLl.getD i 0)
theorem lt_no {c : Int32} {i : Nat} (k : Nat) (hi : i < 6) (h : llT i ≠ c) : f_X2_letter_2 llT (k + 1) c (nI i) = f_X2_letter_2 llT k c (nI (i + 1)) := by
  rw [show ∀ a b, f_X2_letter_2 llT (k + 1) a b = b_X2_letter_2 llT (f_X2_letter_2 llT k) a b from fun _ _ => rfl]
  simp (disch := omega) only [b_X2_letter_2, h, neg_nI, lit_nI, nI_add, pk_mul, pk_sub, nI_clamp, inB_nI, gd_true, bnd_def, nI_leI, nI_ltI, nI_eq, nI_mI, mI_nI, nle_T, nle_F, nlt_T, nlt_F, neq_T, neq_F, ↓reduceIte, Nat.add_zero, Nat.zero_add, Nat.mul_zero, Nat.reduceAdd, Nat.reduceMul, Nat.reduceSub, ob1_e, ob2_e, ob3_e, ob4_e, ob6_e]
theorem lt_yes {c : Int32} {i : Nat} (k : Nat) (hi : i < 6) (h : llT i = c) : f_X2_letter_2 llT (k + 1) c (nI i) = some (nI i) := by
  rw [show ∀ a b, f_X2_letter_2 llT (k + 1) a b = b_X2_letter_2 llT (f_X2_letter_2 llT k) a b from fun _ _ => rfl]
  simp (disch := omega) only [b_X2_letter_2, h, neg_nI, lit_nI, nI_add, pk_mul, pk_sub, nI_clamp, inB_nI, gd_true, bnd_def, nI_leI, nI_ltI, nI_eq, nI_mI, mI_nI, nle_T, nle_F, nlt_T, nlt_F, neq_T, neq_F, ↓reduceIte, Nat.add_zero, Nat.zero_add, Nat.mul_zero, Nat.reduceAdd, Nat.reduceMul, Nat.reduceSub, ob1_e, ob2_e, ob3_e, ob4_e, ob6_e]
theorem lt_end {c : Int32} (k : Nat) : f_X2_letter_2 llT (k + 1) c (nI 6) = some (mI 1) := by
  rw [show ∀ a b, f_X2_letter_2 llT (k + 1) a b = b_X2_letter_2 llT (f_X2_letter_2 llT k) a b from fun _ _ => rfl]
  simp (disch := omega) only [b_X2_letter_2, neg_nI, lit_nI, nI_add, pk_mul, pk_sub, nI_clamp, inB_nI, gd_true, bnd_def, nI_leI, nI_ltI, nI_eq, nI_mI, mI_nI, nle_T, nle_F, nlt_T, nlt_F, neq_T, neq_F, ↓reduceIte, Nat.add_zero, Nat.zero_add, Nat.mul_zero, Nat.reduceAdd, Nat.reduceMul, Nat.reduceSub, ob1_e, ob2_e, ob3_e, ob4_e, ob6_e]
theorem nI_ne {a b : Nat} (h : a ≠ b) (ha : a < 2 ^ 30) (hb : b < 2 ^ 30) : nI a ≠ nI b := fun e => h (nI_inj (by omega) (by omega) e)
theorem nI_nm {a : Nat} (ha : a < 2 ^ 30) : nI a ≠ mI 1 := fun e => (nI_mI (n := a) (k := 1) (by omega)).mp e
theorem lt_c (tb : LT6 llT) {b : Nat} (b1 : b ≤ 255) : ∃ r, f_X2_letter llT (nI b) = some r ∧ f_X12_letterOf (nI b) = some r ∧ ((r = mI 1 ∧ b ≠ 102 ∧ b ≠ 115 ∧ b ≠ 119 ∧ b ≠ 97 ∧ b ≠ 112 ∧ b ≠ 100) ∨ (97 ≤ b ∧ ∃ l, l < 6 ∧ r = nI l)) := by
  have p0 : llT 0 = nI 102 := tb 0 (by omega)
  have p1 : llT 1 = nI 115 := tb 1 (by omega)
  have p2 : llT 2 = nI 119 := tb 2 (by omega)
  have p3 : llT 3 = nI 97 := tb 3 (by omega)
  have p4 : llT 4 = nI 112 := tb 4 (by omega)
  have p5 : llT 5 = nI 100 := tb 5 (by omega)
  obtain ⟨k, ef⟩ : ∃ k, fu = k + 1 + 1 + 1 + 1 + 1 + 1 + 1 := ⟨fu - 7, by have := fu_le; omega⟩
  by_cases q0 : b = 102
  · refine ⟨nI 0, ?_, ?_, Or.inr ⟨by omega, 0, by decide, rfl⟩⟩
    · show f_X2_letter_2 llT fu (nI b) (nI 0) = _
      rw [ef, lt_yes _ (i := 0) (by omega) (by rw [p0, q0])]
    · subst q0
      simp (disch := omega) only [f_X12_letterOf, b_X12_letterOf_0, neg_nI, lit_nI, nI_add, pk_mul, pk_sub, nI_clamp, inB_nI, gd_true, bnd_def, nI_leI, nI_ltI, nI_eq, nI_mI, mI_nI, nle_T, nle_F, nlt_T, nlt_F, neq_T, neq_F, ↓reduceIte, Nat.add_zero, Nat.zero_add, Nat.mul_zero, Nat.reduceAdd, Nat.reduceMul, Nat.reduceSub, ob1_e, ob2_e, ob3_e, ob4_e, ob6_e]
  by_cases q1 : b = 115
  · refine ⟨nI 1, ?_, ?_, Or.inr ⟨by omega, 1, by decide, rfl⟩⟩
    · show f_X2_letter_2 llT fu (nI b) (nI 0) = _
      rw [ef, lt_no _ (i := 0) (by omega) (by rw [p0]; exact nI_ne (by omega) (by omega) (by omega)), lt_yes _ (i := 1) (by omega) (by rw [p1, q1])]
    · subst q1
      simp (disch := omega) only [f_X12_letterOf, b_X12_letterOf_0, neg_nI, lit_nI, nI_add, pk_mul, pk_sub, nI_clamp, inB_nI, gd_true, bnd_def, nI_leI, nI_ltI, nI_eq, nI_mI, mI_nI, nle_T, nle_F, nlt_T, nlt_F, neq_T, neq_F, ↓reduceIte, Nat.add_zero, Nat.zero_add, Nat.mul_zero, Nat.reduceAdd, Nat.reduceMul, Nat.reduceSub, ob1_e, ob2_e, ob3_e, ob4_e, ob6_e]
  by_cases q2 : b = 119
  · refine ⟨nI 2, ?_, ?_, Or.inr ⟨by omega, 2, by decide, rfl⟩⟩
    · show f_X2_letter_2 llT fu (nI b) (nI 0) = _
      rw [ef, lt_no _ (i := 0) (by omega) (by rw [p0]; exact nI_ne (by omega) (by omega) (by omega)), lt_no _ (i := 1) (by omega) (by rw [p1]; exact nI_ne (by omega) (by omega) (by omega)), lt_yes _ (i := 2) (by omega) (by rw [p2, q2])]
    · subst q2
      simp (disch := omega) only [f_X12_letterOf, b_X12_letterOf_0, neg_nI, lit_nI, nI_add, pk_mul, pk_sub, nI_clamp, inB_nI, gd_true, bnd_def, nI_leI, nI_ltI, nI_eq, nI_mI, mI_nI, nle_T, nle_F, nlt_T, nlt_F, neq_T, neq_F, ↓reduceIte, Nat.add_zero, Nat.zero_add, Nat.mul_zero, Nat.reduceAdd, Nat.reduceMul, Nat.reduceSub, ob1_e, ob2_e, ob3_e, ob4_e, ob6_e]
  by_cases q3 : b = 97
  · refine ⟨nI 3, ?_, ?_, Or.inr ⟨by omega, 3, by decide, rfl⟩⟩
    · show f_X2_letter_2 llT fu (nI b) (nI 0) = _
      rw [ef, lt_no _ (i := 0) (by omega) (by rw [p0]; exact nI_ne (by omega) (by omega) (by omega)), lt_no _ (i := 1) (by omega) (by rw [p1]; exact nI_ne (by omega) (by omega) (by omega)), lt_no _ (i := 2) (by omega) (by rw [p2]; exact nI_ne (by omega) (by omega) (by omega)), lt_yes _ (i := 3) (by omega) (by rw [p3, q3])]
    · subst q3
      simp (disch := omega) only [f_X12_letterOf, b_X12_letterOf_0, neg_nI, lit_nI, nI_add, pk_mul, pk_sub, nI_clamp, inB_nI, gd_true, bnd_def, nI_leI, nI_ltI, nI_eq, nI_mI, mI_nI, nle_T, nle_F, nlt_T, nlt_F, neq_T, neq_F, ↓reduceIte, Nat.add_zero, Nat.zero_add, Nat.mul_zero, Nat.reduceAdd, Nat.reduceMul, Nat.reduceSub, ob1_e, ob2_e, ob3_e, ob4_e, ob6_e]
  by_cases q4 : b = 112
  · refine ⟨nI 4, ?_, ?_, Or.inr ⟨by omega, 4, by decide, rfl⟩⟩
    · show f_X2_letter_2 llT fu (nI b) (nI 0) = _
      rw [ef, lt_no _ (i := 0) (by omega) (by rw [p0]; exact nI_ne (by omega) (by omega) (by omega)), lt_no _ (i := 1) (by omega) (by rw [p1]; exact nI_ne (by omega) (by omega) (by omega)), lt_no _ (i := 2) (by omega) (by rw [p2]; exact nI_ne (by omega) (by omega) (by omega)), lt_no _ (i := 3) (by omega) (by rw [p3]; exact nI_ne (by omega) (by omega) (by omega)), lt_yes _ (i := 4) (by omega) (by rw [p4, q4])]
    · subst q4
      simp (disch := omega) only [f_X12_letterOf, b_X12_letterOf_0, neg_nI, lit_nI, nI_add, pk_mul, pk_sub, nI_clamp, inB_nI, gd_true, bnd_def, nI_leI, nI_ltI, nI_eq, nI_mI, mI_nI, nle_T, nle_F, nlt_T, nlt_F, neq_T, neq_F, ↓reduceIte, Nat.add_zero, Nat.zero_add, Nat.mul_zero, Nat.reduceAdd, Nat.reduceMul, Nat.reduceSub, ob1_e, ob2_e, ob3_e, ob4_e, ob6_e]
  by_cases q5 : b = 100
  · refine ⟨nI 5, ?_, ?_, Or.inr ⟨by omega, 5, by decide, rfl⟩⟩
    · show f_X2_letter_2 llT fu (nI b) (nI 0) = _
      rw [ef, lt_no _ (i := 0) (by omega) (by rw [p0]; exact nI_ne (by omega) (by omega) (by omega)), lt_no _ (i := 1) (by omega) (by rw [p1]; exact nI_ne (by omega) (by omega) (by omega)), lt_no _ (i := 2) (by omega) (by rw [p2]; exact nI_ne (by omega) (by omega) (by omega)), lt_no _ (i := 3) (by omega) (by rw [p3]; exact nI_ne (by omega) (by omega) (by omega)), lt_no _ (i := 4) (by omega) (by rw [p4]; exact nI_ne (by omega) (by omega) (by omega)), lt_yes _ (i := 5) (by omega) (by rw [p5, q5])]
    · subst q5
      simp (disch := omega) only [f_X12_letterOf, b_X12_letterOf_0, neg_nI, lit_nI, nI_add, pk_mul, pk_sub, nI_clamp, inB_nI, gd_true, bnd_def, nI_leI, nI_ltI, nI_eq, nI_mI, mI_nI, nle_T, nle_F, nlt_T, nlt_F, neq_T, neq_F, ↓reduceIte, Nat.add_zero, Nat.zero_add, Nat.mul_zero, Nat.reduceAdd, Nat.reduceMul, Nat.reduceSub, ob1_e, ob2_e, ob3_e, ob4_e, ob6_e]
  refine ⟨mI 1, ?_, ?_, Or.inl ⟨rfl, q0, q1, q2, q3, q4, q5⟩⟩
  · show f_X2_letter_2 llT fu (nI b) (nI 0) = _
    rw [ef, lt_no _ (i := 0) (by omega) (by rw [p0]; exact nI_ne (by omega) (by omega) (by omega)), lt_no _ (i := 1) (by omega) (by rw [p1]; exact nI_ne (by omega) (by omega) (by omega)), lt_no _ (i := 2) (by omega) (by rw [p2]; exact nI_ne (by omega) (by omega) (by omega)), lt_no _ (i := 3) (by omega) (by rw [p3]; exact nI_ne (by omega) (by omega) (by omega)), lt_no _ (i := 4) (by omega) (by rw [p4]; exact nI_ne (by omega) (by omega) (by omega)), lt_no _ (i := 5) (by omega) (by rw [p5]; exact nI_ne (by omega) (by omega) (by omega)), lt_end]
  · simp (disch := omega) only [f_X12_letterOf, b_X12_letterOf_0, neg_nI, lit_nI, nI_add, pk_mul, pk_sub, nI_clamp, inB_nI, gd_true, bnd_def, nI_leI, nI_ltI, nI_eq, nI_mI, mI_nI, nle_T, nle_F, nlt_T, nlt_F, neq_T, neq_F, ↓reduceIte, Nat.add_zero, Nat.zero_add, Nat.mul_zero, Nat.reduceAdd, Nat.reduceMul, Nat.reduceSub, ob1_e, ob2_e, ob3_e, ob4_e, ob6_e]
theorem lt_m (tb : LT6 llT) : f_X2_letter llT (mI 1) = some (mI 1) ∧ f_X12_letterOf (mI 1) = some (mI 1) := by
  have p0 : llT 0 = nI 102 := tb 0 (by omega)
  have p1 : llT 1 = nI 115 := tb 1 (by omega)
  have p2 : llT 2 = nI 119 := tb 2 (by omega)
  have p3 : llT 3 = nI 97 := tb 3 (by omega)
  have p4 : llT 4 = nI 112 := tb 4 (by omega)
  have p5 : llT 5 = nI 100 := tb 5 (by omega)
  obtain ⟨k, ef⟩ : ∃ k, fu = k + 1 + 1 + 1 + 1 + 1 + 1 + 1 := ⟨fu - 7, by have := fu_le; omega⟩
  constructor
  · show f_X2_letter_2 llT fu (mI 1) (nI 0) = _
    rw [ef, lt_no _ (i := 0) (by omega) (by rw [p0]; exact nI_nm (by omega)), lt_no _ (i := 1) (by omega) (by rw [p1]; exact nI_nm (by omega)), lt_no _ (i := 2) (by omega) (by rw [p2]; exact nI_nm (by omega)), lt_no _ (i := 3) (by omega) (by rw [p3]; exact nI_nm (by omega)), lt_no _ (i := 4) (by omega) (by rw [p4]; exact nI_nm (by omega)), lt_no _ (i := 5) (by omega) (by rw [p5]; exact nI_nm (by omega)), lt_end]
  · simp (disch := omega) only [f_X12_letterOf, b_X12_letterOf_0, neg_nI, lit_nI, nI_add, pk_mul, pk_sub, nI_clamp, inB_nI, gd_true, bnd_def, nI_leI, nI_ltI, nI_eq, nI_mI, mI_nI, nle_T, nle_F, nlt_T, nlt_F, neq_T, neq_F, ↓reduceIte, Nat.add_zero, Nat.zero_add, Nat.mul_zero, Nat.reduceAdd, Nat.reduceMul, Nat.reduceSub, ob1_e, ob2_e, ob3_e, ob4_e, ob6_e]
/-- numbers of at most four digits -/
theorem num4_l (hn : n ≤ 240) (h : RT n t u) : ∀ (j k a v : Nat), k + j = 4 → 0 < k → a ≤ n → v < 10 ^ k → ∀ kx ky, j < kx → j < ky → ∃ a', a ≤ a' ∧ a' ≤ n ∧ ((∃ v', v' ≤ 9999 ∧ f_X10_number_14 (nI n) t kx (nI a) (nI 4) (nI v) (nI k) = some (nI v', nI a') ∧ f_X12_plainNumber_4 (nI n) u ky (nI a) (mI 1) (nI v) (nI k) = some (nI v', nI a', mI 1)) ∨ ∃ v', f_X10_number_14 (nI n) t kx (nI a) (nI 4) (nI v) (nI k) = some (mI 1, nI a') ∧ f_X12_plainNumber_4 (nI n) u ky (nI a) (mI 1) (nI v) (nI k) = some (v', nI a', nI a'))
  | 0, k, a, v, hk, hk0, ha, hv, kx + 1, ky + 1, _, _ => by
    obtain rfl : k = 4 := by omega
    have hv' : v < 10000 := hv
    rcases dg_c hn h ha with ⟨d, d1, d2, d3, d4, d5, d6⟩ | ⟨d4, c5, d5, d6⟩
    · refine ⟨a, by omega, ha, Or.inr ⟨nI v, ?_, ?_⟩⟩
      · simp (disch := omega) only [f_X10_number_14, b_X10_number_14, b_X10_number_60, b_X10_number_71, d4, neg_nI, lit_nI, nI_add, pk_mul, pk_sub, nI_clamp, inB_nI, gd_true, bnd_def, nI_leI, nI_ltI, nI_eq, nI_mI, mI_nI, nle_T, nle_F, nlt_T, nlt_F, neq_T, neq_F, ↓reduceIte, Nat.add_zero, Nat.zero_add, Nat.mul_zero, Nat.reduceAdd, Nat.reduceMul, Nat.reduceSub, ob1_e, ob2_e, ob3_e, ob4_e, ob6_e]
      · simp (disch := omega) only [f_X12_plainNumber_4, b_X12_plainNumber_4, b_X12_plainNumber_48, d5, d6, bad_n, neg_nI, lit_nI, nI_add, pk_mul, pk_sub, nI_clamp, inB_nI, gd_true, bnd_def, nI_leI, nI_ltI, nI_eq, nI_mI, mI_nI, nle_T, nle_F, nlt_T, nlt_F, neq_T, neq_F, ↓reduceIte, Nat.add_zero, Nat.zero_add, Nat.mul_zero, Nat.reduceAdd, Nat.reduceMul, Nat.reduceSub, ob1_e, ob2_e, ob3_e, ob4_e, ob6_e]
    · refine ⟨a, by omega, ha, Or.inl ⟨v, by omega, ?_, ?_⟩⟩
      · simp (disch := omega) only [f_X10_number_14, b_X10_number_14, b_X10_number_60, b_X10_number_71, d4, neg_nI, lit_nI, nI_add, pk_mul, pk_sub, nI_clamp, inB_nI, gd_true, bnd_def, nI_leI, nI_ltI, nI_eq, nI_mI, mI_nI, nle_T, nle_F, nlt_T, nlt_F, neq_T, neq_F, ↓reduceIte, Nat.add_zero, Nat.zero_add, Nat.mul_zero, Nat.reduceAdd, Nat.reduceMul, Nat.reduceSub, ob1_e, ob2_e, ob3_e, ob4_e, ob6_e]
      · simp (disch := omega) only [f_X12_plainNumber_4, b_X12_plainNumber_4, b_X12_plainNumber_48, d5, d6, bad_n, neg_nI, lit_nI, nI_add, pk_mul, pk_sub, nI_clamp, inB_nI, gd_true, bnd_def, nI_leI, nI_ltI, nI_eq, nI_mI, mI_nI, nle_T, nle_F, nlt_T, nlt_F, neq_T, neq_F, ↓reduceIte, Nat.add_zero, Nat.zero_add, Nat.mul_zero, Nat.reduceAdd, Nat.reduceMul, Nat.reduceSub, ob1_e, ob2_e, ob3_e, ob4_e, ob6_e]
  | j + 1, k, a, v, hk, hk0, ha, hv, kx + 1, ky + 1, hx, hy => by
    have hp : (10 : Nat) ^ k ≤ 10 ^ 3 := Nat.pow_le_pow_right (by omega) (by omega)
    have hv' : v < 1000 := Nat.lt_of_lt_of_le hv hp
    rcases dg_c hn h ha with ⟨d, d1, d2, d3, d4, d5, d6⟩ | ⟨d4, c5, d5, d6⟩
    · obtain ⟨a', h1, h2, h3⟩ := num4_l hn h j (k + 1) (a + 1) (10 * v + d) (by omega) (by omega) (by omega) (by rw [Nat.pow_succ]; omega) kx ky (by omega) (by omega)
      have ex : f_X10_number_14 (nI n) t (kx + 1) (nI a) (nI 4) (nI v) (nI k) = f_X10_number_14 (nI n) t kx (nI (a + 1)) (nI 4) (nI (10 * v + d)) (nI (k + 1)) := by
        rw [show ∀ a b c d, f_X10_number_14 (nI n) t (kx + 1) a b c d = b_X10_number_14 (nI n) t (f_X10_number_14 (nI n) t kx) a b c d from fun _ _ _ _ => rfl]
        simp (disch := omega) only [b_X10_number_14, d3, d4, m10, s48, neg_nI, lit_nI, nI_add, pk_mul, pk_sub, nI_clamp, inB_nI, gd_true, bnd_def, nI_leI, nI_ltI, nI_eq, nI_mI, mI_nI, nle_T, nle_F, nlt_T, nlt_F, neq_T, neq_F, ↓reduceIte, Nat.add_zero, Nat.zero_add, Nat.mul_zero, Nat.reduceAdd, Nat.reduceMul, Nat.reduceSub, ob1_e, ob2_e, ob3_e, ob4_e, ob6_e]
      have ey : f_X12_plainNumber_4 (nI n) u (ky + 1) (nI a) (mI 1) (nI v) (nI k) = f_X12_plainNumber_4 (nI n) u ky (nI (a + 1)) (mI 1) (nI (10 * v + d)) (nI (k + 1)) := by
        rw [show ∀ a b c d, f_X12_plainNumber_4 (nI n) u (ky + 1) a b c d = b_X12_plainNumber_4 (nI n) u (f_X12_plainNumber_4 (nI n) u ky) a b c d from fun _ _ _ _ => rfl]
        simp (disch := omega) only [b_X12_plainNumber_4, d5, d6, s48, neg_nI, lit_nI, nI_add, pk_mul, pk_sub, nI_clamp, inB_nI, gd_true, bnd_def, nI_leI, nI_ltI, nI_eq, nI_mI, mI_nI, nle_T, nle_F, nlt_T, nlt_F, neq_T, neq_F, ↓reduceIte, Nat.add_zero, Nat.zero_add, Nat.mul_zero, Nat.reduceAdd, Nat.reduceMul, Nat.reduceSub, ob1_e, ob2_e, ob3_e, ob4_e, ob6_e]
      rw [ex, ey]
      exact ⟨a', by omega, h2, h3⟩
    · refine ⟨a, by omega, ha, Or.inl ⟨v, by omega, ?_, ?_⟩⟩
      · simp (disch := omega) only [f_X10_number_14, b_X10_number_14, b_X10_number_60, b_X10_number_71, d4, neg_nI, lit_nI, nI_add, pk_mul, pk_sub, nI_clamp, inB_nI, gd_true, bnd_def, nI_leI, nI_ltI, nI_eq, nI_mI, mI_nI, nle_T, nle_F, nlt_T, nlt_F, neq_T, neq_F, ↓reduceIte, Nat.add_zero, Nat.zero_add, Nat.mul_zero, Nat.reduceAdd, Nat.reduceMul, Nat.reduceSub, ob1_e, ob2_e, ob3_e, ob4_e, ob6_e]
      · simp (disch := omega) only [f_X12_plainNumber_4, b_X12_plainNumber_4, b_X12_plainNumber_48, d5, d6, bad_n, neg_nI, lit_nI, nI_add, pk_mul, pk_sub, nI_clamp, inB_nI, gd_true, bnd_def, nI_leI, nI_ltI, nI_eq, nI_mI, mI_nI, nle_T, nle_F, nlt_T, nlt_F, neq_T, neq_F, ↓reduceIte, Nat.add_zero, Nat.zero_add, Nat.mul_zero, Nat.reduceAdd, Nat.reduceMul, Nat.reduceSub, ob1_e, ob2_e, ob3_e, ob4_e, ob6_e]
theorem num4 (hn : n ≤ 240) (h : RT n t u) {a1 d : Nat} (hs : f_X10_sign (nI n) t (nI a1) = some (nI (48 + d), nI a1)) (hd : DY n t u a1 d) : ∃ a', a1 < a' ∧ a' ≤ n ∧ ((∃ v', v' ≤ 9999 ∧ f_X10_number (nI n) t (nI a1) (nI 4) = some (nI v', nI a') ∧ f_X12_plainNumber (nI n) u (nI a1) (mI 1) = some (nI v', nI a', mI 1)) ∨ ∃ v', f_X10_number (nI n) t (nI a1) (nI 4) = some (mI 1, nI a') ∧ f_X12_plainNumber (nI n) u (nI a1) (mI 1) = some (v', nI a', nI a')) := by
  obtain ⟨d1, d2, d3, d4, d5, d6⟩ := hd
  have hf := fu_le
  obtain ⟨k, ef⟩ : ∃ k, fu = k + 1 := ⟨fu - 1, by omega⟩
  obtain ⟨a', h1, h2, h3⟩ := num4_l hn h 3 1 (a1 + 1) d (by omega) (by omega) (by omega) (by omega) k k (by omega) (by omega)
  have ex : f_X10_number (nI n) t (nI a1) (nI 4) = f_X10_number_14 (nI n) t k (nI (a1 + 1)) (nI 4) (nI d) (nI 1) := by
    have e : ∀ k, f_X10_number_14 (nI n) t (k + 1) (nI a1) (nI 4) (nI 0) (nI 0) = f_X10_number_14 (nI n) t k (nI (a1 + 1)) (nI 4) (nI d) (nI 1) := by
      intro k
      rw [show ∀ a b c d, f_X10_number_14 (nI n) t (k + 1) a b c d = b_X10_number_14 (nI n) t (f_X10_number_14 (nI n) t k) a b c d from fun _ _ _ _ => rfl]
      simp (disch := omega) only [b_X10_number_14, d3, d4, m10, s48, Nat.zero_mul, Nat.mul_zero, Nat.add_sub_cancel_left, neg_nI, lit_nI, nI_add, pk_mul, pk_sub, nI_clamp, inB_nI, gd_true, bnd_def, nI_leI, nI_ltI, nI_eq, nI_mI, mI_nI, nle_T, nle_F, nlt_T, nlt_F, neq_T, neq_F, ↓reduceIte, Nat.add_zero, Nat.zero_add, Nat.mul_zero, Nat.reduceAdd, Nat.reduceMul, Nat.reduceSub, ob1_e, ob2_e, ob3_e, ob4_e, ob6_e]
    rw [← e k, ← ef]
    simp (disch := omega) only [f_X10_number, b_X10_number_0, hs, neg_nI, lit_nI, nI_add, pk_mul, pk_sub, nI_clamp, inB_nI, gd_true, bnd_def, nI_leI, nI_ltI, nI_eq, nI_mI, mI_nI, nle_T, nle_F, nlt_T, nlt_F, neq_T, neq_F, ↓reduceIte, Nat.add_zero, Nat.zero_add, Nat.mul_zero, Nat.reduceAdd, Nat.reduceMul, Nat.reduceSub, ob1_e, ob2_e, ob3_e, ob4_e, ob6_e]
  have ey : f_X12_plainNumber (nI n) u (nI a1) (mI 1) = f_X12_plainNumber_4 (nI n) u k (nI (a1 + 1)) (mI 1) (nI d) (nI 1) := by
    have e : ∀ k, f_X12_plainNumber_4 (nI n) u (k + 1) (nI a1) (mI 1) (nI 0) (nI 0) = f_X12_plainNumber_4 (nI n) u k (nI (a1 + 1)) (mI 1) (nI d) (nI 1) := by
      intro k
      rw [show ∀ a b c d, f_X12_plainNumber_4 (nI n) u (k + 1) a b c d = b_X12_plainNumber_4 (nI n) u (f_X12_plainNumber_4 (nI n) u k) a b c d from fun _ _ _ _ => rfl]
      simp (disch := omega) only [b_X12_plainNumber_4, d5, d6, s48, Nat.mul_zero, Nat.add_sub_cancel_left, neg_nI, lit_nI, nI_add, pk_mul, pk_sub, nI_clamp, inB_nI, gd_true, bnd_def, nI_leI, nI_ltI, nI_eq, nI_mI, mI_nI, nle_T, nle_F, nlt_T, nlt_F, neq_T, neq_F, ↓reduceIte, Nat.add_zero, Nat.zero_add, Nat.mul_zero, Nat.reduceAdd, Nat.reduceMul, Nat.reduceSub, ob1_e, ob2_e, ob3_e, ob4_e, ob6_e]
    rw [← e k, ← ef]
    rfl
  rw [ex, ey]
  exact ⟨a', by omega, h2, h3⟩
end LW
