/-! a peace is taken by the model -/
section TK
variable {G M : Nat} {rr rg rm : Nat → Int32}

theorem tk18 {g m x y z : Int32} {mr mg mm nw : Nat → Int32} : ∀ (j k : Nat) (w : Nat → Int32) (n : Nat), k + j = 2 → j < n → (∀ i, i < k → w i = rr i) → ∃ w', (∀ i, i < 2 → w' i = rr i) ∧ f_X12_takePeace_18 (nI G) (nI M) rr rg rm n g m x y z w mg mm nw (nI k) = f_X12_takePeace_43 (nI G) (nI M) rr rg rm fu g m x y z w' mg mm nw (nI 0)
  | 0, k, w, n + 1, hk, hn, h => by
    refine ⟨w, fun i hi => h i (by omega), ?_⟩
    simp (disch := omega) only [f_X12_takePeace_18, b_X12_takePeace_18, neg_nI, lit_nI, nI_add, pk_mul, pk_sub, nI_clamp, inB_nI, gd_true, bnd_def, nI_leI, nI_ltI, nI_eq, nI_mI, mI_nI, nle_T, nle_F, nlt_T, nlt_F, neq_T, neq_F, ↓reduceIte, Nat.add_zero, Nat.zero_add, Nat.mul_zero, Nat.reduceAdd, Nat.reduceMul, Nat.reduceSub]
  | j + 1, k, w, n + 1, hk, hn, h => by
    obtain ⟨w', h1, h2⟩ := tk18 (g := g) (m := m) (x := x) (y := y) (z := z) (mr := mr) (mg := mg) (mm := mm) (nw := nw) j (k + 1) (upd w k (rr k)) n (by omega) (by omega) (fun i hi => by
      by_cases e : i = k
      · rw [upd_y e, e]
      · rw [upd_n e]; exact h i (by omega))
    refine ⟨w', h1, ?_⟩
    rw [← h2, show ∀ a b c d e f1 f2 f3 f4 i, f_X12_takePeace_18 (nI G) (nI M) rr rg rm (n + 1) a b c d e f1 f2 f3 f4 i = b_X12_takePeace_18 (nI G) (nI M) rr rg rm (f_X12_takePeace_18 (nI G) (nI M) rr rg rm n) a b c d e f1 f2 f3 f4 i from fun _ _ _ _ _ _ _ _ _ _ => rfl]
    simp (disch := omega) only [b_X12_takePeace_18, neg_nI, lit_nI, nI_add, pk_mul, pk_sub, nI_clamp, inB_nI, gd_true, bnd_def, nI_leI, nI_ltI, nI_eq, nI_mI, mI_nI, nle_T, nle_F, nlt_T, nlt_F, neq_T, neq_F, ↓reduceIte, Nat.add_zero, Nat.zero_add, Nat.mul_zero, Nat.reduceAdd, Nat.reduceMul, Nat.reduceSub]

theorem tk43 {g m x y z : Int32} {mr mg mm nw : Nat → Int32} : ∀ (j k : Nat) (w : Nat → Int32) (n : Nat), k + j = 24 → j < n → (∀ i, i < k → w i = rg i) → ∃ w', (∀ i, i < 24 → w' i = rg i) ∧ f_X12_takePeace_43 (nI G) (nI M) rr rg rm n g m x y z mr w mm nw (nI k) = f_X12_takePeace_69 (nI G) (nI M) rr rg rm fu g m x y z mr w' mm nw (nI 0)
  | 0, k, w, n + 1, hk, hn, h => by
    refine ⟨w, fun i hi => h i (by omega), ?_⟩
    simp (disch := omega) only [f_X12_takePeace_43, b_X12_takePeace_43, neg_nI, lit_nI, nI_add, pk_mul, pk_sub, nI_clamp, inB_nI, gd_true, bnd_def, nI_leI, nI_ltI, nI_eq, nI_mI, mI_nI, nle_T, nle_F, nlt_T, nlt_F, neq_T, neq_F, ↓reduceIte, Nat.add_zero, Nat.zero_add, Nat.mul_zero, Nat.reduceAdd, Nat.reduceMul, Nat.reduceSub]
  | j + 1, k, w, n + 1, hk, hn, h => by
    obtain ⟨w', h1, h2⟩ := tk43 (g := g) (m := m) (x := x) (y := y) (z := z) (mr := mr) (mg := mg) (mm := mm) (nw := nw) j (k + 1) (upd w k (rg k)) n (by omega) (by omega) (fun i hi => by
      by_cases e : i = k
      · rw [upd_y e, e]
      · rw [upd_n e]; exact h i (by omega))
    refine ⟨w', h1, ?_⟩
    rw [← h2, show ∀ a b c d e f1 f2 f3 f4 i, f_X12_takePeace_43 (nI G) (nI M) rr rg rm (n + 1) a b c d e f1 f2 f3 f4 i = b_X12_takePeace_43 (nI G) (nI M) rr rg rm (f_X12_takePeace_43 (nI G) (nI M) rr rg rm n) a b c d e f1 f2 f3 f4 i from fun _ _ _ _ _ _ _ _ _ _ => rfl]
    simp (disch := omega) only [b_X12_takePeace_43, neg_nI, lit_nI, nI_add, pk_mul, pk_sub, nI_clamp, inB_nI, gd_true, bnd_def, nI_leI, nI_ltI, nI_eq, nI_mI, mI_nI, nle_T, nle_F, nlt_T, nlt_F, neq_T, neq_F, ↓reduceIte, Nat.add_zero, Nat.zero_add, Nat.mul_zero, Nat.reduceAdd, Nat.reduceMul, Nat.reduceSub]

theorem tk69 {g m x y z : Int32} {mr mg mm nw : Nat → Int32} : ∀ (j k : Nat) (w : Nat → Int32) (n : Nat), k + j = 10 → j < n → (∀ i, i < k → w i = rm i) → ∃ w', (∀ i, i < 10 → w' i = rm i) ∧ f_X12_takePeace_69 (nI G) (nI M) rr rg rm n g m x y z mr mg w nw (nI k) = f_X12_takePeace_95 (nI G) (nI M) rr rg rm fu g m x y z mr mg w' nw (nI 0)
  | 0, k, w, n + 1, hk, hn, h => by
    refine ⟨w, fun i hi => h i (by omega), ?_⟩
    simp (disch := omega) only [f_X12_takePeace_69, b_X12_takePeace_69, neg_nI, lit_nI, nI_add, pk_mul, pk_sub, nI_clamp, inB_nI, gd_true, bnd_def, nI_leI, nI_ltI, nI_eq, nI_mI, mI_nI, nle_T, nle_F, nlt_T, nlt_F, neq_T, neq_F, ↓reduceIte, Nat.add_zero, Nat.zero_add, Nat.mul_zero, Nat.reduceAdd, Nat.reduceMul, Nat.reduceSub]
  | j + 1, k, w, n + 1, hk, hn, h => by
    obtain ⟨w', h1, h2⟩ := tk69 (g := g) (m := m) (x := x) (y := y) (z := z) (mr := mr) (mg := mg) (mm := mm) (nw := nw) j (k + 1) (upd w k (rm k)) n (by omega) (by omega) (fun i hi => by
      by_cases e : i = k
      · rw [upd_y e, e]
      · rw [upd_n e]; exact h i (by omega))
    refine ⟨w', h1, ?_⟩
    rw [← h2, show ∀ a b c d e f1 f2 f3 f4 i, f_X12_takePeace_69 (nI G) (nI M) rr rg rm (n + 1) a b c d e f1 f2 f3 f4 i = b_X12_takePeace_69 (nI G) (nI M) rr rg rm (f_X12_takePeace_69 (nI G) (nI M) rr rg rm n) a b c d e f1 f2 f3 f4 i from fun _ _ _ _ _ _ _ _ _ _ => rfl]
    simp (disch := omega) only [b_X12_takePeace_69, neg_nI, lit_nI, nI_add, pk_mul, pk_sub, nI_clamp, inB_nI, gd_true, bnd_def, nI_leI, nI_ltI, nI_eq, nI_mI, mI_nI, nle_T, nle_F, nlt_T, nlt_F, neq_T, neq_F, ↓reduceIte, Nat.add_zero, Nat.zero_add, Nat.mul_zero, Nat.reduceAdd, Nat.reduceMul, Nat.reduceSub]

theorem tk95 {g m x y z : Int32} {mr mg mm nw : Nat → Int32} : ∀ (j k : Nat) (w : Nat → Int32) (n : Nat), k + j = 250 → j < n → (∀ i, i < k → w i = nI 0) → ∃ w', (∀ i, i < 250 → w' i = nI 0) ∧ f_X12_takePeace_95 (nI G) (nI M) rr rg rm n g m x y z mr mg mm w (nI k) = f_X12_takePeace_117 (nI G) (nI M) rr rg rm fu g m x y z mr mg mm w' (nI 0)
  | 0, k, w, n + 1, hk, hn, h => by
    refine ⟨w, fun i hi => h i (by omega), ?_⟩
    simp (disch := omega) only [f_X12_takePeace_95, b_X12_takePeace_95, neg_nI, lit_nI, nI_add, pk_mul, pk_sub, nI_clamp, inB_nI, gd_true, bnd_def, nI_leI, nI_ltI, nI_eq, nI_mI, mI_nI, nle_T, nle_F, nlt_T, nlt_F, neq_T, neq_F, ↓reduceIte, Nat.add_zero, Nat.zero_add, Nat.mul_zero, Nat.reduceAdd, Nat.reduceMul, Nat.reduceSub]
  | j + 1, k, w, n + 1, hk, hn, h => by
    obtain ⟨w', h1, h2⟩ := tk95 (g := g) (m := m) (x := x) (y := y) (z := z) (mr := mr) (mg := mg) (mm := mm) (nw := nw) j (k + 1) (upd w k (nI 0)) n (by omega) (by omega) (fun i hi => by
      by_cases e : i = k
      · rw [upd_y e]
      · rw [upd_n e]; exact h i (by omega))
    refine ⟨w', h1, ?_⟩
    rw [← h2, show ∀ a b c d e f1 f2 f3 f4 i, f_X12_takePeace_95 (nI G) (nI M) rr rg rm (n + 1) a b c d e f1 f2 f3 f4 i = b_X12_takePeace_95 (nI G) (nI M) rr rg rm (f_X12_takePeace_95 (nI G) (nI M) rr rg rm n) a b c d e f1 f2 f3 f4 i from fun _ _ _ _ _ _ _ _ _ _ => rfl]
    simp (disch := omega) only [b_X12_takePeace_95, neg_nI, lit_nI, nI_add, pk_mul, pk_sub, nI_clamp, inB_nI, gd_true, bnd_def, nI_leI, nI_ltI, nI_eq, nI_mI, mI_nI, nle_T, nle_F, nlt_T, nlt_F, neq_T, neq_F, ↓reduceIte, Nat.add_zero, Nat.zero_add, Nat.mul_zero, Nat.reduceAdd, Nat.reduceMul, Nat.reduceSub]

def tkZ (c : Nat → Int32) : Prop := (∀ i, i < 36 → c i = nI 0) ∧ c 65 = nI 0 ∧ c 68 = nI 0 ∧ c 69 = nI 0
theorem of_c4 {mg : Nat → Int32} {g k : Nat} (h : g < 6 ∧ k < 4) : f_X12_of mg (nI g) (nI k) = some (mg (4 * g + k)) := by
  simp (disch := omega) only [f_X12_of, b_X12_of_0, neg_nI, lit_nI, nI_add, pk_mul, pk_sub, nI_clamp, inB_nI, gd_true, bnd_def, nI_leI, nI_ltI, nI_eq, nI_mI, mI_nI, nle_T, nle_F, nlt_T, nlt_F, neq_T, neq_F, ↓reduceIte, Nat.add_zero, Nat.zero_add, Nat.mul_zero, Nat.reduceAdd, Nat.reduceMul, Nat.reduceSub]
theorem tk117 (hG : G ≤ 6) {x y z : Int32} {mr mg mm : Nat → Int32} : ∀ (j k : Nat) (c : Nat → Int32) (n : Nat), k + j = G → j < n → tkZ c → bgG (fun g => mg (4 * g + 1)) (fun g => mg (4 * g + 2)) k c → ∃ c', tkZ c' ∧ bgG (fun g => mg (4 * g + 1)) (fun g => mg (4 * g + 2)) G c' ∧ f_X12_takePeace_117 (nI G) (nI M) rr rg rm n (nI G) (nI M) x y z mr mg mm c (nI k) = f_X12_takePeace_185 (nI G) (nI M) rr rg rm fu (nI G) (nI M) x y z mr mg mm c' (nI 0)
  | 0, k, c, n + 1, hk, hn, h, hg => by
    obtain rfl : k = G := by omega
    refine ⟨c, h, hg, ?_⟩
    simp (disch := omega) only [f_X12_takePeace_117, b_X12_takePeace_117, neg_nI, lit_nI, nI_add, pk_mul, pk_sub, nI_clamp, inB_nI, gd_true, bnd_def, nI_leI, nI_ltI, nI_eq, nI_mI, mI_nI, nle_T, nle_F, nlt_T, nlt_F, neq_T, neq_F, ↓reduceIte, Nat.add_zero, Nat.zero_add, Nat.mul_zero, Nat.reduceAdd, Nat.reduceMul, Nat.reduceSub]
  | j + 1, k, c, n + 1, hk, hn, h, hg => by
    have o1 := of_c4 (mg := mg) (g := k) (k := 1) (by omega)
    have o2 := of_c4 (mg := mg) (g := k) (k := 2) (by omega)
    obtain ⟨c', h1, h3, h2⟩ := tk117 hG (x := x) (y := y) (z := z) (mr := mr) (mg := mg) (mm := mm) j (k + 1) (upd (upd (upd (upd c (36 + k) (mg (4 * k + 1))) (42 + k) (mg (4 * k + 2))) (48 + k) (nI 1 <<< (nI k &&& nI 31))) (54 + k) (mI 1)) n (by omega) (by omega) (by
      obtain ⟨z1, z2, z3, z4⟩ := h
      refine ⟨fun i hi => ?_, ?_, ?_, ?_⟩
      · rw [upd_n (by omega), upd_n (by omega), upd_n (by omega), upd_n (by omega)]; exact z1 i hi
      · rw [upd_n (by omega), upd_n (by omega), upd_n (by omega), upd_n (by omega)]; exact z2
      · rw [upd_n (by omega), upd_n (by omega), upd_n (by omega), upd_n (by omega)]; exact z3
      · rw [upd_n (by omega), upd_n (by omega), upd_n (by omega), upd_n (by omega)]; exact z4) (fun g hgk => by
      by_cases e : g = k
      · subst e
        refine ⟨?_, ?_, ?_, ?_⟩
        · rw [upd_n (by omega), upd_n (by omega), upd_n (by omega), upd_y rfl]
        · rw [upd_n (by omega), upd_n (by omega), upd_y rfl]
        · rw [upd_n (by omega), upd_y rfl]
        · rw [upd_y rfl]
      · obtain ⟨q1, q2, q3, q4⟩ := hg g (by omega)
        refine ⟨?_, ?_, ?_, ?_⟩
        · rw [upd_n (by omega), upd_n (by omega), upd_n (by omega), upd_n (by omega), q1]
        · rw [upd_n (by omega), upd_n (by omega), upd_n (by omega), upd_n (by omega), q2]
        · rw [upd_n (by omega), upd_n (by omega), upd_n (by omega), upd_n (by omega), q3]
        · rw [upd_n (by omega), upd_n (by omega), upd_n (by omega), upd_n (by omega), q4])
    refine ⟨c', h1, h3, ?_⟩
    rw [← h2, show ∀ a b c d e f1 f2 f3 f4 i, f_X12_takePeace_117 (nI G) (nI M) rr rg rm (n + 1) a b c d e f1 f2 f3 f4 i = b_X12_takePeace_117 (nI G) (nI M) rr rg rm (f_X12_takePeace_117 (nI G) (nI M) rr rg rm n) a b c d e f1 f2 f3 f4 i from fun _ _ _ _ _ _ _ _ _ _ => rfl]
    simp (disch := omega) only [b_X12_takePeace_117, o1, o2, neg_nI, lit_nI, nI_add, pk_mul, pk_sub, nI_clamp, inB_nI, gd_true, bnd_def, nI_leI, nI_ltI, nI_eq, nI_mI, mI_nI, nle_T, nle_F, nlt_T, nlt_F, neq_T, neq_F, ↓reduceIte, Nat.add_zero, Nat.zero_add, Nat.mul_zero, Nat.reduceAdd, Nat.reduceMul, Nat.reduceSub, ob1_e, ob2_e, ob3_e, ob4_e, ob6_e]
theorem tk185 (hG : G ≤ 6) (hM : M ≤ 5) {x y z : Int32} {mr mg mm : Nat → Int32} : ∀ (j k : Nat) (c : Nat → Int32) (n : Nat), k + j = M → j < n → tkZ c → bgG (fun g => mg (4 * g + 1)) (fun g => mg (4 * g + 2)) G c → (∀ m, m < k → c (60 + m) = mI 1) → ∃ c', f_X12_takePeace_185 (nI G) (nI M) rr rg rm n (nI G) (nI M) x y z mr mg mm c (nI k) = some (nI G, nI G, nI M, nI 0, nI 0, nI 0, mr, mg, mm, c') ∧ tkZ c' ∧ bgG (fun g => mg (4 * g + 1)) (fun g => mg (4 * g + 2)) G c' ∧ (∀ m, m < M → c' (60 + m) = mI 1) ∧ c' 66 = mr 0 ∧ c' 67 = mr 1
  | 0, k, c, n + 1, hk, hn, h, hg, hm => by
    obtain rfl : k = M := by omega
    refine ⟨upd (upd c 66 (mr 0)) 67 (mr 1), ?_, ?_, ?_, ?_, rfl, rfl⟩
    · simp (disch := omega) only [f_X12_takePeace_185, b_X12_takePeace_185, neg_nI, lit_nI, nI_add, pk_mul, pk_sub, nI_clamp, inB_nI, gd_true, bnd_def, nI_leI, nI_ltI, nI_eq, nI_mI, mI_nI, nle_T, nle_F, nlt_T, nlt_F, neq_T, neq_F, ↓reduceIte, Nat.add_zero, Nat.zero_add, Nat.mul_zero, Nat.reduceAdd, Nat.reduceMul, Nat.reduceSub]
    · obtain ⟨z1, z2, z3, z4⟩ := h
      exact ⟨fun i hi => by rw [upd_n (by omega), upd_n (by omega)]; exact z1 i hi, z2, z3, z4⟩
    · intro g hg6
      obtain ⟨q1, q2, q3, q4⟩ := hg g hg6
      refine ⟨?_, ?_, ?_, ?_⟩
      · rw [upd_n (by omega), upd_n (by omega), q1]
      · rw [upd_n (by omega), upd_n (by omega), q2]
      · rw [upd_n (by omega), upd_n (by omega), q3]
      · rw [upd_n (by omega), upd_n (by omega), q4]
    · intro m hm5
      rw [upd_n (by omega), upd_n (by omega)]; exact hm m hm5
  | j + 1, k, c, n + 1, hk, hn, h, hg, hm => by
    obtain ⟨c', h1, h2⟩ := tk185 hG hM (x := x) (y := y) (z := z) (mr := mr) (mg := mg) (mm := mm) j (k + 1) (upd c (60 + k) (mI 1)) n (by omega) (by omega) (by
      obtain ⟨z1, z2, z3, z4⟩ := h
      refine ⟨fun i hi => ?_, ?_, ?_, ?_⟩
      · rw [upd_n (by omega)]; exact z1 i hi
      · rw [upd_n (by omega)]; exact z2
      · rw [upd_n (by omega)]; exact z3
      · rw [upd_n (by omega)]; exact z4) (fun g hg6 => by
      obtain ⟨q1, q2, q3, q4⟩ := hg g hg6
      rw [upd_n (by omega), upd_n (by omega), upd_n (by omega), upd_n (by omega)]
      exact ⟨q1, q2, q3, q4⟩) (fun m hmk => by
      by_cases e : m = k
      · subst e; rw [upd_y rfl]
      · rw [upd_n (by omega)]; exact hm m (by omega))
    refine ⟨c', ?_, h2⟩
    rw [← h1, show ∀ a b c d e f1 f2 f3 f4 i, f_X12_takePeace_185 (nI G) (nI M) rr rg rm (n + 1) a b c d e f1 f2 f3 f4 i = b_X12_takePeace_185 (nI G) (nI M) rr rg rm (f_X12_takePeace_185 (nI G) (nI M) rr rg rm n) a b c d e f1 f2 f3 f4 i from fun _ _ _ _ _ _ _ _ _ _ => rfl]
    simp (disch := omega) only [b_X12_takePeace_185, neg_nI, lit_nI, nI_add, pk_mul, pk_sub, nI_clamp, inB_nI, gd_true, bnd_def, nI_leI, nI_ltI, nI_eq, nI_mI, mI_nI, nle_T, nle_F, nlt_T, nlt_F, neq_T, neq_F, ↓reduceIte, Nat.add_zero, Nat.zero_add, Nat.mul_zero, Nat.reduceAdd, Nat.reduceMul, Nat.reduceSub]
theorem tk_c (hG : G ≤ 6) (hM : M ≤ 5) (g m x y z : Int32) (mr mg mm c : Nat → Int32) : ∃ mr' mg' mm' c', f_X12_takePeace (nI G) (nI M) rr rg rm g m x y z mr mg mm c = some (nI G, nI G, nI M, nI 0, nI 0, nI 0, mr', mg', mm', c') ∧ (∀ i, i < 2 → mr' i = rr i) ∧ (∀ i, i < 24 → mg' i = rg i) ∧ (∀ i, i < 10 → mm' i = rm i) ∧ tkZ c' ∧ bgG (fun g => mg' (4 * g + 1)) (fun g => mg' (4 * g + 2)) G c' ∧ (∀ m, m < M → c' (60 + m) = mI 1) ∧ c' 66 = mr' 0 ∧ c' 67 = mr' 1 := by
  have hf := fu_le
  obtain ⟨mr', h1, e1⟩ := tk18 (G := G) (M := M) (rr := rr) (rg := rg) (rm := rm) (g := nI G) (m := nI M) (x := x) (y := y) (z := z) (mr := mr) (mg := mg) (mm := mm) (nw := c) 2 0 mr fu (by omega) (by omega) (fun i hi => by omega)
  obtain ⟨mg', h2, e2⟩ := tk43 (G := G) (M := M) (rr := rr) (rg := rg) (rm := rm) (g := nI G) (m := nI M) (x := x) (y := y) (z := z) (mr := mr') (mg := mg) (mm := mm) (nw := c) 24 0 mg fu (by omega) (by omega) (fun i hi => by omega)
  obtain ⟨mm', h3, e3⟩ := tk69 (G := G) (M := M) (rr := rr) (rg := rg) (rm := rm) (g := nI G) (m := nI M) (x := x) (y := y) (z := z) (mr := mr') (mg := mg') (mm := mm) (nw := c) 10 0 mm fu (by omega) (by omega) (fun i hi => by omega)
  obtain ⟨c1, h4, e4⟩ := tk95 (G := G) (M := M) (rr := rr) (rg := rg) (rm := rm) (g := nI G) (m := nI M) (x := x) (y := y) (z := z) (mr := mr') (mg := mg') (mm := mm') (nw := c) 250 0 c fu (by omega) (by omega) (fun i hi => by omega)
  obtain ⟨c2, h5, h6, e5⟩ := tk117 (M := M) (rr := rr) (rg := rg) (rm := rm) hG (x := x) (y := y) (z := z) (mr := mr') (mg := mg') (mm := mm') G 0 c1 fu (by omega) (by omega) ⟨fun i hi => h4 i (by omega), h4 65 (by omega), h4 68 (by omega), h4 69 (by omega)⟩ (fun g hg => by omega)
  obtain ⟨c3, e6, r⟩ := tk185 (rr := rr) (rg := rg) (rm := rm) hG hM (x := x) (y := y) (z := z) (mr := mr') (mg := mg') (mm := mm') M 0 c2 fu (by omega) (by omega) h5 h6 (fun g hg => by omega)
  refine ⟨mr', mg', mm', c3, ?_, h1, h2, h3, r⟩
  show f_X12_takePeace_18 (nI G) (nI M) rr rg rm fu (nI G) (nI M) x y z mr mg mm c (nI 0) = _
  rw [e1, e2, e3, e4, e5, e6]
end TK
