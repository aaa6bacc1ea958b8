section
/-! a peace is taken by both: the first state -/
section BG
variable {pd cn : Int32} {fe st : Nat → Int32}
def bgG (fe st : Nat → Int32) (k : Nat) (c : Nat → Int32) : Prop := ∀ g, g < k → c (36 + g) = fe g ∧ c (42 + g) = st g ∧ c (48 + g) = nI 1 <<< (nI g &&& nI 31) ∧ c (54 + g) = mI 1
theorem bg2 : ∀ (j k : Nat) (c : Nat → Int32) (n : Nat), k + j = 36 → j < n → (∀ i, i < k → c i = nI 0) → ∃ c', (∀ i, i < 36 → c' i = nI 0) ∧ f_X9_begin_2 pd cn fe st n c (nI k) = f_X9_begin_23 pd cn fe st fu c' (nI 0)
  | 0, k, c, n + 1, hk, hn, h => by
    refine ⟨c, fun i hi => h i (by omega), ?_⟩
    simp (disch := omega) only [f_X9_begin_2, b_X9_begin_2, neg_nI, lit_nI, nI_add, pk_mul, pk_sub, nI_clamp, inB_nI, gd_true, bnd_def, nI_leI, nI_ltI, nI_eq, nI_mI, mI_nI, nle_T, nle_F, nlt_T, nlt_F, neq_T, neq_F, ↓reduceIte, Nat.add_zero, Nat.zero_add, Nat.mul_zero, Nat.reduceAdd, Nat.reduceMul, Nat.reduceSub]
  | j + 1, k, c, n + 1, hk, hn, h => by
    obtain ⟨c', h1, h2⟩ := bg2 j (k + 1) (upd c k (nI 0)) n (by omega) (by omega) (fun i hi => by
      by_cases e : i = k
      · rw [upd_y e]
      · rw [upd_n e]; exact h i (by omega))
    refine ⟨c', h1, ?_⟩
    rw [← h2, show ∀ a b, f_X9_begin_2 pd cn fe st (n + 1) a b = b_X9_begin_2 pd cn fe st (f_X9_begin_2 pd cn fe st n) a b from fun _ _ => rfl]
    simp (disch := omega) only [b_X9_begin_2, neg_nI, lit_nI, nI_add, pk_mul, pk_sub, nI_clamp, inB_nI, gd_true, bnd_def, nI_leI, nI_ltI, nI_eq, nI_mI, mI_nI, nle_T, nle_F, nlt_T, nlt_F, neq_T, neq_F, ↓reduceIte, Nat.add_zero, Nat.zero_add, Nat.mul_zero, Nat.reduceAdd, Nat.reduceMul, Nat.reduceSub]
theorem bg23 : ∀ (j k : Nat) (c : Nat → Int32) (n : Nat), k + j = 6 → j < n → (∀ i, i < 36 → c i = nI 0) → bgG fe st k c → ∃ c', (∀ i, i < 36 → c' i = nI 0) ∧ bgG fe st 6 c' ∧ f_X9_begin_23 pd cn fe st n c (nI k) = f_X9_begin_95 pd cn fe st fu c' (nI 0)
  | 0, k, c, n + 1, hk, hn, h, hg => by
    obtain rfl : k = 6 := by omega
    refine ⟨c, h, hg, ?_⟩
    simp (disch := omega) only [f_X9_begin_23, b_X9_begin_23, neg_nI, lit_nI, nI_add, pk_mul, pk_sub, nI_clamp, inB_nI, gd_true, bnd_def, nI_leI, nI_ltI, nI_eq, nI_mI, mI_nI, nle_T, nle_F, nlt_T, nlt_F, neq_T, neq_F, ↓reduceIte, Nat.add_zero, Nat.zero_add, Nat.mul_zero, Nat.reduceAdd, Nat.reduceMul, Nat.reduceSub]
  | j + 1, k, c, n + 1, hk, hn, h, hg => by
    obtain ⟨c', h1, h3, h2⟩ := bg23 j (k + 1) (upd (upd (upd (upd c (36 + k) (fe k)) (42 + k) (st k)) (48 + k) (nI 1 <<< (nI k &&& nI 31))) (54 + k) (mI 1)) n (by omega) (by omega) (fun i hi => by rw [upd_n (by omega), upd_n (by omega), upd_n (by omega), upd_n (by omega)]; exact h i hi) (fun g hgk => by
      by_cases e : g = k
      · subst e
        refine ⟨?_, ?_, ?_, ?_⟩
        · rw [upd_n (by omega), upd_n (by omega), upd_n (by omega), upd_y rfl]
        · rw [upd_n (by omega), upd_n (by omega), upd_y rfl]
        · rw [upd_n (by omega), upd_y rfl]
        · rw [upd_y rfl]
      · obtain ⟨q1, q2, q3, q4⟩ := hg g (by omega)
        refine ⟨?_, ?_, ?_, ?_⟩
        · rw [upd_n (by omega), upd_n (by omega), upd_n (by omega), upd_n (by omega), q1]
        · rw [upd_n (by omega), upd_n (by omega), upd_n (by omega), upd_n (by omega), q2]
        · rw [upd_n (by omega), upd_n (by omega), upd_n (by omega), upd_n (by omega), q3]
        · rw [upd_n (by omega), upd_n (by omega), upd_n (by omega), upd_n (by omega), q4])
    refine ⟨c', h1, h3, ?_⟩
    rw [← h2, show ∀ a b, f_X9_begin_23 pd cn fe st (n + 1) a b = b_X9_begin_23 pd cn fe st (f_X9_begin_23 pd cn fe st n) a b from fun _ _ => rfl]
    simp (disch := omega) only [b_X9_begin_23, neg_nI, lit_nI, nI_add, pk_mul, pk_sub, nI_clamp, inB_nI, gd_true, bnd_def, nI_leI, nI_ltI, nI_eq, nI_mI, mI_nI, nle_T, nle_F, nlt_T, nlt_F, neq_T, neq_F, ↓reduceIte, Nat.add_zero, Nat.zero_add, Nat.mul_zero, Nat.reduceAdd, Nat.reduceMul, Nat.reduceSub]
theorem bg95 : ∀ (j k : Nat) (c : Nat → Int32) (n : Nat), k + j = 5 → j < n → (∀ i, i < 36 → c i = nI 0) → bgG fe st 6 c → (∀ m, m < k → c (60 + m) = mI 1) → ∃ c', f_X9_begin_95 pd cn fe st n c (nI k) = some c' ∧ (∀ i, i < 36 → c' i = nI 0) ∧ bgG fe st 6 c' ∧ (∀ m, m < 5 → c' (60 + m) = mI 1) ∧ c' 65 = nI 0 ∧ c' 66 = pd ∧ c' 67 = cn ∧ c' 68 = nI 0
  | 0, k, c, n + 1, hk, hn, h, hg, hm => by
    obtain rfl : k = 5 := by omega
    refine ⟨upd (upd (upd (upd c 65 (nI 0)) 66 pd) 67 cn) 68 (nI 0), ?_, ?_, ?_, ?_, rfl, rfl, rfl, rfl⟩
    · simp (disch := omega) only [f_X9_begin_95, b_X9_begin_95, neg_nI, lit_nI, nI_add, pk_mul, pk_sub, nI_clamp, inB_nI, gd_true, bnd_def, nI_leI, nI_ltI, nI_eq, nI_mI, mI_nI, nle_T, nle_F, nlt_T, nlt_F, neq_T, neq_F, ↓reduceIte, Nat.add_zero, Nat.zero_add, Nat.mul_zero, Nat.reduceAdd, Nat.reduceMul, Nat.reduceSub]
    · intro i hi
      rw [upd_n (by omega), upd_n (by omega), upd_n (by omega), upd_n (by omega)]; exact h i hi
    · intro g hg6
      obtain ⟨q1, q2, q3, q4⟩ := hg g hg6
      refine ⟨?_, ?_, ?_, ?_⟩
      · rw [upd_n (by omega), upd_n (by omega), upd_n (by omega), upd_n (by omega), q1]
      · rw [upd_n (by omega), upd_n (by omega), upd_n (by omega), upd_n (by omega), q2]
      · rw [upd_n (by omega), upd_n (by omega), upd_n (by omega), upd_n (by omega), q3]
      · rw [upd_n (by omega), upd_n (by omega), upd_n (by omega), upd_n (by omega), q4]
    · intro m hm5
      rw [upd_n (by omega), upd_n (by omega), upd_n (by omega), upd_n (by omega)]; exact hm m hm5
  | j + 1, k, c, n + 1, hk, hn, h, hg, hm => by
    obtain ⟨c', h1, h2⟩ := bg95 j (k + 1) (upd c (60 + k) (mI 1)) n (by omega) (by omega) (fun i hi => by rw [upd_n (by omega)]; exact h i hi) (fun g hg6 => by
      obtain ⟨q1, q2, q3, q4⟩ := hg g hg6
      rw [upd_n (by omega), upd_n (by omega), upd_n (by omega), upd_n (by omega)]
      exact ⟨q1, q2, q3, q4⟩) (fun m hmk => by
      by_cases e : m = k
      · subst e; rw [upd_y rfl]
      · rw [upd_n (by omega)]; exact hm m (by omega))
    refine ⟨c', ?_, h2⟩
    rw [← h1, show ∀ a b, f_X9_begin_95 pd cn fe st (n + 1) a b = b_X9_begin_95 pd cn fe st (f_X9_begin_95 pd cn fe st n) a b from fun _ _ => rfl]
    simp (disch := omega) only [b_X9_begin_95, neg_nI, lit_nI, nI_add, pk_mul, pk_sub, nI_clamp, inB_nI, gd_true, bnd_def, nI_leI, nI_ltI, nI_eq, nI_mI, mI_nI, nle_T, nle_F, nlt_T, nlt_F, neq_T, neq_F, ↓reduceIte, Nat.add_zero, Nat.zero_add, Nat.mul_zero, Nat.reduceAdd, Nat.reduceMul, Nat.reduceSub]
theorem bg_c (c : Nat → Int32) : ∃ c', f_X9_begin pd cn fe st c = some c' ∧ (∀ i, i < 36 → c' i = nI 0) ∧ bgG fe st 6 c' ∧ (∀ m, m < 5 → c' (60 + m) = mI 1) ∧ c' 65 = nI 0 ∧ c' 66 = pd ∧ c' 67 = cn ∧ c' 68 = nI 0 := by
  have hf := fu_le
  obtain ⟨c1, h1, e1⟩ := bg2 (pd := pd) (cn := cn) (fe := fe) (st := st) 36 0 c fu (by omega) (by omega) (fun i hi => by omega)
  obtain ⟨c2, h2, g2, e2⟩ := bg23 (pd := pd) (cn := cn) (fe := fe) (st := st) 6 0 c1 fu (by omega) (by omega) h1 (fun g hg => by omega)
  obtain ⟨c3, e3, r⟩ := bg95 (pd := pd) (cn := cn) (fe := fe) (st := st) 5 0 c2 fu (by omega) (by omega) h2 g2 (fun g hg => by omega)
  refine ⟨c3, ?_, r⟩
  show f_X9_begin_2 pd cn fe st fu c (nI 0) = _
  rw [e1, e2, e3]
end BG
end
section
/-! a peace is taken by the model -/
section TK
variable {G M : Nat} {rr rg rm : Nat → Int32}

theorem tk18 {g m x y z : Int32} {mr mg mm nw : Nat → Int32} : ∀ (j k : Nat) (w : Nat → Int32) (n : Nat), k + j = 2 → j < n → (∀ i, i < k → w i = rr i) → ∃ w', (∀ i, i < 2 → w' i = rr i) ∧ f_X12_takePeace_18 (nI G) (nI M) rr rg rm n g m x y z w mg mm nw (nI k) = f_X12_takePeace_43 (nI G) (nI M) rr rg rm fu g m x y z w' mg mm nw (nI 0)
  | 0, k, w, n + 1, hk, hn, h => by
    refine ⟨w, fun i hi => h i (by omega), ?_⟩
    simp (disch := omega) only [f_X12_takePeace_18, b_X12_takePeace_18, neg_nI, lit_nI, nI_add, pk_mul, pk_sub, nI_clamp, inB_nI, gd_true, bnd_def, nI_leI, nI_ltI, nI_eq, nI_mI, mI_nI, nle_T, nle_F, nlt_T, nlt_F, neq_T, neq_F, ↓reduceIte, Nat.add_zero, Nat.zero_add, Nat.mul_zero, Nat.reduceAdd, Nat.reduceMul, Nat.reduceSub]
  | j + 1, k, w, n + 1, hk, hn, h => by
    obtain ⟨w', h1, h2⟩ := tk18 (g := g) (m := m) (x := x) (y := y) (z := z) (mr := mr) (mg := mg) (mm := mm) (nw := nw) j (k + 1) (upd w k (rr k)) n (by omega) (by omega) (fun i hi => by
      by_cases e : i = k
      · rw [upd_y e, e]
      · rw [upd_n e]; exact h i (by omega))
    refine ⟨w', h1, ?_⟩
    rw [← h2, show ∀ a b c d e f1 f2 f3 f4 i, f_X12_takePeace_18 (nI G) (nI M) rr rg rm (n + 1) a b c d e f1 f2 f3 f4 i = b_X12_takePeace_18 (nI G) (nI M) rr rg rm (f_X12_takePeace_18 (nI G) (nI M) rr rg rm n) a b c d e f1 f2 f3 f4 i from fun _ _ _ _ _ _ _ _ _ _ => rfl]
    simp (disch := omega) only [b_X12_takePeace_18, neg_nI, lit_nI, nI_add, pk_mul, pk_sub, nI_clamp, inB_nI, gd_true, bnd_def, nI_leI, nI_ltI, nI_eq, nI_mI, mI_nI, nle_T, nle_F, nlt_T, nlt_F, neq_T, neq_F, ↓reduceIte, Nat.add_zero, Nat.zero_add, Nat.mul_zero, Nat.reduceAdd, Nat.reduceMul, Nat.reduceSub]

theorem tk43 {g m x y z : Int32} {mr mg mm nw : Nat → Int32} : ∀ (j k : Nat) (w : Nat → Int32) (n : Nat), k + j = 24 → j < n → (∀ i, i < k → w i = rg i) → ∃ w', (∀ i, i < 24 → w' i = rg i) ∧ f_X12_takePeace_43 (nI G) (nI M) rr rg rm n g m x y z mr w mm nw (nI k) = f_X12_takePeace_69 (nI G) (nI M) rr rg rm fu g m x y z mr w' mm nw (nI 0)
  | 0, k, w, n + 1, hk, hn, h => by
    refine ⟨w, fun i hi => h i (by omega), ?_⟩
    simp (disch := omega) only [f_X12_takePeace_43, b_X12_takePeace_43, neg_nI, lit_nI, nI_add, pk_mul, pk_sub, nI_clamp, inB_nI, gd_true, bnd_def, nI_leI, nI_ltI, nI_eq, nI_mI, mI_nI, nle_T, nle_F, nlt_T, nlt_F, neq_T, neq_F, ↓reduceIte, Nat.add_zero, Nat.zero_add, Nat.mul_zero, Nat.reduceAdd, Nat.reduceMul, Nat.reduceSub]
  | j + 1, k, w, n + 1, hk, hn, h => by
    obtain ⟨w', h1, h2⟩ := tk43 (g := g) (m := m) (x := x) (y := y) (z := z) (mr := mr) (mg := mg) (mm := mm) (nw := nw) j (k + 1) (upd w k (rg k)) n (by omega) (by omega) (fun i hi => by
      by_cases e : i = k
      · rw [upd_y e, e]
      · rw [upd_n e]; exact h i (by omega))
    refine ⟨w', h1, ?_⟩
    rw [← h2, show ∀ a b c d e f1 f2 f3 f4 i, f_X12_takePeace_43 (nI G) (nI M) rr rg rm (n + 1) a b c d e f1 f2 f3 f4 i = b_X12_takePeace_43 (nI G) (nI M) rr rg rm (f_X12_takePeace_43 (nI G) (nI M) rr rg rm n) a b c d e f1 f2 f3 f4 i from fun _ _ _ _ _ _ _ _ _ _ => rfl]
    simp (disch := omega) only [b_X12_takePeace_43, neg_nI, lit_nI, nI_add, pk_mul, pk_sub, nI_clamp, inB_nI, gd_true, bnd_def, nI_leI, nI_ltI, nI_eq, nI_mI, mI_nI, nle_T, nle_F, nlt_T, nlt_F, neq_T, neq_F, ↓reduceIte, Nat.add_zero, Nat.zero_add, Nat.mul_zero, Nat.reduceAdd, Nat.reduceMul, Nat.reduceSub]

theorem tk69 {g m x y z : Int32} {mr mg mm nw : Nat → Int32} : ∀ (j k : Nat) (w : Nat → Int32) (n : Nat), k + j = 10 → j < n → (∀ i, i < k → w i = rm i) → ∃ w', (∀ i, i < 10 → w' i = rm i) ∧ f_X12_takePeace_69 (nI G) (nI M) rr rg rm n g m x y z mr mg w nw (nI k) = f_X12_takePeace_95 (nI G) (nI M) rr rg rm fu g m x y z mr mg w' nw (nI 0)
  | 0, k, w, n + 1, hk, hn, h => by
    refine ⟨w, fun i hi => h i (by omega), ?_⟩
    simp (disch := omega) only [f_X12_takePeace_69, b_X12_takePeace_69, neg_nI, lit_nI, nI_add, pk_mul, pk_sub, nI_clamp, inB_nI, gd_true, bnd_def, nI_leI, nI_ltI, nI_eq, nI_mI, mI_nI, nle_T, nle_F, nlt_T, nlt_F, neq_T, neq_F, ↓reduceIte, Nat.add_zero, Nat.zero_add, Nat.mul_zero, Nat.reduceAdd, Nat.reduceMul, Nat.reduceSub]
  | j + 1, k, w, n + 1, hk, hn, h => by
    obtain ⟨w', h1, h2⟩ := tk69 (g := g) (m := m) (x := x) (y := y) (z := z) (mr := mr) (mg := mg) (mm := mm) (nw := nw) j (k + 1) (upd w k (rm k)) n (by omega) (by omega) (fun i hi => by
      by_cases e : i = k
      · rw [upd_y e, e]
      · rw [upd_n e]; exact h i (by omega))
    refine ⟨w', h1, ?_⟩
    rw [← h2, show ∀ a b c d e f1 f2 f3 f4 i, f_X12_takePeace_69 (nI G) (nI M) rr rg rm (n + 1) a b c d e f1 f2 f3 f4 i = b_X12_takePeace_69 (nI G) (nI M) rr rg rm (f_X12_takePeace_69 (nI G) (nI M) rr rg rm n) a b c d e f1 f2 f3 f4 i from fun _ _ _ _ _ _ _ _ _ _ => rfl]
    simp (disch := omega) only [b_X12_takePeace_69, neg_nI, lit_nI, nI_add, pk_mul, pk_sub, nI_clamp, inB_nI, gd_true, bnd_def, nI_leI, nI_ltI, nI_eq, nI_mI, mI_nI, nle_T, nle_F, nlt_T, nlt_F, neq_T, neq_F, ↓reduceIte, Nat.add_zero, Nat.zero_add, Nat.mul_zero, Nat.reduceAdd, Nat.reduceMul, Nat.reduceSub]

theorem tk95 {g m x y z : Int32} {mr mg mm nw : Nat → Int32} : ∀ (j k : Nat) (w : Nat → Int32) (n : Nat), k + j = 250 → j < n → (∀ i, i < k → w i = nI 0) → ∃ w', (∀ i, i < 250 → w' i = nI 0) ∧ f_X12_takePeace_95 (nI G) (nI M) rr rg rm n g m x y z mr mg mm w (nI k) = f_X12_takePeace_117 (nI G) (nI M) rr rg rm fu g m x y z mr mg mm w' (nI 0)
  | 0, k, w, n + 1, hk, hn, h => by
    refine ⟨w, fun i hi => h i (by omega), ?_⟩
    simp (disch := omega) only [f_X12_takePeace_95, b_X12_takePeace_95, neg_nI, lit_nI, nI_add, pk_mul, pk_sub, nI_clamp, inB_nI, gd_true, bnd_def, nI_leI, nI_ltI, nI_eq, nI_mI, mI_nI, nle_T, nle_F, nlt_T, nlt_F, neq_T, neq_F, ↓reduceIte, Nat.add_zero, Nat.zero_add, Nat.mul_zero, Nat.reduceAdd, Nat.reduceMul, Nat.reduceSub]
  | j + 1, k, w, n + 1, hk, hn, h => by
    obtain ⟨w', h1, h2⟩ := tk95 (g := g) (m := m) (x := x) (y := y) (z := z) (mr := mr) (mg := mg) (mm := mm) (nw := nw) j (k + 1) (upd w k (nI 0)) n (by omega) (by omega) (fun i hi => by
      by_cases e : i = k
      · rw [upd_y e]
      · rw [upd_n e]; exact h i (by omega))
    refine ⟨w', h1, ?_⟩
    rw [← h2, show ∀ a b c d e f1 f2 f3 f4 i, f_X12_takePeace_95 (nI G) (nI M) rr rg rm (n + 1) a b c d e f1 f2 f3 f4 i = b_X12_takePeace_95 (nI G) (nI M) rr rg rm (f_X12_takePeace_95 (nI G) (nI M) rr rg rm n) a b c d e f1 f2 f3 f4 i from fun _ _ _ _ _ _ _ _ _ _ => rfl]
    simp (disch := omega) only [b_X12_takePeace_95, neg_nI, lit_nI, nI_add, pk_mul, pk_sub, nI_clamp, inB_nI, gd_true, bnd_def, nI_leI, nI_ltI, nI_eq, nI_mI, mI_nI, nle_T, nle_F, nlt_T, nlt_F, neq_T, neq_F, ↓reduceIte, Nat.add_zero, Nat.zero_add, Nat.mul_zero, Nat.reduceAdd, Nat.reduceMul, Nat.reduceSub]

def tkZ (c : Nat → Int32) : Prop := (∀ i, i < 36 → c i = nI 0) ∧ c 65 = nI 0 ∧ c 68 = nI 0 ∧ c 69 = nI 0
theorem of_c4 {mg : Nat → Int32} {g k : Nat} (h : g < 6 ∧ k < 4) : f_X12_of mg (nI g) (nI k) = some (mg (4 * g + k)) := by
  simp (disch := omega) only [f_X12_of, b_X12_of_0, neg_nI, lit_nI, nI_add, pk_mul, pk_sub, nI_clamp, inB_nI, gd_true, bnd_def, nI_leI, nI_ltI, nI_eq, nI_mI, mI_nI, nle_T, nle_F, nlt_T, nlt_F, neq_T, neq_F, ↓reduceIte, Nat.add_zero, Nat.zero_add, Nat.mul_zero, Nat.reduceAdd, Nat.reduceMul, Nat.reduceSub]
theorem tk117 (hG : G ≤ 6) {x y z : Int32} {mr mg mm : Nat → Int32} : ∀ (j k : Nat) (c : Nat → Int32) (n : Nat), k + j = G → j < n → tkZ c → bgG (fun g => mg (4 * g + 1)) (fun g => mg (4 * g + 2)) k c → ∃ c', tkZ c' ∧ bgG (fun g => mg (4 * g + 1)) (fun g => mg (4 * g + 2)) G c' ∧ f_X12_takePeace_117 (nI G) (nI M) rr rg rm n (nI G) (nI M) x y z mr mg mm c (nI k) = f_X12_takePeace_185 (nI G) (nI M) rr rg rm fu (nI G) (nI M) x y z mr mg mm c' (nI 0)
  | 0, k, c, n + 1, hk, hn, h, hg => by
    obtain rfl : k = G := by omega
    refine ⟨c, h, hg, ?_⟩
    simp (disch := omega) only [f_X12_takePeace_117, b_X12_takePeace_117, neg_nI, lit_nI, nI_add, pk_mul, pk_sub, nI_clamp, inB_nI, gd_true, bnd_def, nI_leI, nI_ltI, nI_eq, nI_mI, mI_nI, nle_T, nle_F, nlt_T, nlt_F, neq_T, neq_F, ↓reduceIte, Nat.add_zero, Nat.zero_add, Nat.mul_zero, Nat.reduceAdd, Nat.reduceMul, Nat.reduceSub]
  | j + 1, k, c, n + 1, hk, hn, h, hg => by
    have o1 := of_c4 (mg := mg) (g := k) (k := 1) (by omega)
    have o2 := of_c4 (mg := mg) (g := k) (k := 2) (by omega)
    obtain ⟨c', h1, h3, h2⟩ := tk117 hG (x := x) (y := y) (z := z) (mr := mr) (mg := mg) (mm := mm) j (k + 1) (upd (upd (upd (upd c (36 + k) (mg (4 * k + 1))) (42 + k) (mg (4 * k + 2))) (48 + k) (nI 1 <<< (nI k &&& nI 31))) (54 + k) (mI 1)) n (by omega) (by omega) (by
      obtain ⟨z1, z2, z3, z4⟩ := h
      refine ⟨fun i hi => ?_, ?_, ?_, ?_⟩
      · rw [upd_n (by omega), upd_n (by omega), upd_n (by omega), upd_n (by omega)]; exact z1 i hi
      · rw [upd_n (by omega), upd_n (by omega), upd_n (by omega), upd_n (by omega)]; exact z2
      · rw [upd_n (by omega), upd_n (by omega), upd_n (by omega), upd_n (by omega)]; exact z3
      · rw [upd_n (by omega), upd_n (by omega), upd_n (by omega), upd_n (by omega)]; exact z4) (fun g hgk => by
      by_cases e : g = k
      · subst e
        refine ⟨?_, ?_, ?_, ?_⟩
        · rw [upd_n (by omega), upd_n (by omega), upd_n (by omega), upd_y rfl]
        · rw [upd_n (by omega), upd_n (by omega), upd_y rfl]
        · rw [upd_n (by omega), upd_y rfl]
        · rw [upd_y rfl]
      · obtain ⟨q1, q2, q3, q4⟩ := hg g (by omega)
        refine ⟨?_, ?_, ?_, ?_⟩
        · rw [upd_n (by omega), upd_n (by omega), upd_n (by omega), upd_n (by omega), q1]
        · rw [upd_n (by omega), upd_n (by omega), upd_n (by omega), upd_n (by omega), q2]
        · rw [upd_n (by omega), upd_n (by omega), upd_n (by omega), upd_n (by omega), q3]
        · rw [upd_n (by omega), upd_n (by omega), upd_n (by omega), upd_n (by omega), q4])
    refine ⟨c', h1, h3, ?_⟩
    rw [← h2, show ∀ a b c d e f1 f2 f3 f4 i, f_X12_takePeace_117 (nI G) (nI M) rr rg rm (n + 1) a b c d e f1 f2 f3 f4 i = b_X12_takePeace_117 (nI G) (nI M) rr rg rm (f_X12_takePeace_117 (nI G) (nI M) rr rg rm n) a b c d e f1 f2 f3 f4 i from fun _ _ _ _ _ _ _ _ _ _ => rfl]
    simp (disch := omega) only [b_X12_takePeace_117, o1, o2, neg_nI, lit_nI, nI_add, pk_mul, pk_sub, nI_clamp, inB_nI, gd_true, bnd_def, nI_leI, nI_ltI, nI_eq, nI_mI, mI_nI, nle_T, nle_F, nlt_T, nlt_F, neq_T, neq_F, ↓reduceIte, Nat.add_zero, Nat.zero_add, Nat.mul_zero, Nat.reduceAdd, Nat.reduceMul, Nat.reduceSub, ob1_e, ob2_e, ob3_e, ob4_e, ob6_e]
theorem tk185 (hG : G ≤ 6) (hM : M ≤ 5) {x y z : Int32} {mr mg mm : Nat → Int32} : ∀ (j k : Nat) (c : Nat → Int32) (n : Nat), k + j = M → j < n → tkZ c → bgG (fun g => mg (4 * g + 1)) (fun g => mg (4 * g + 2)) G c → (∀ m, m < k → c (60 + m) = mI 1) → ∃ c', f_X12_takePeace_185 (nI G) (nI M) rr rg rm n (nI G) (nI M) x y z mr mg mm c (nI k) = some (nI G, nI G, nI M, nI 0, nI 0, nI 0, mr, mg, mm, c') ∧ tkZ c' ∧ bgG (fun g => mg (4 * g + 1)) (fun g => mg (4 * g + 2)) G c' ∧ (∀ m, m < M → c' (60 + m) = mI 1) ∧ c' 66 = mr 0 ∧ c' 67 = mr 1
  | 0, k, c, n + 1, hk, hn, h, hg, hm => by
    obtain rfl : k = M := by omega
    refine ⟨upd (upd c 66 (mr 0)) 67 (mr 1), ?_, ?_, ?_, ?_, rfl, rfl⟩
    · simp (disch := omega) only [f_X12_takePeace_185, b_X12_takePeace_185, neg_nI, lit_nI, nI_add, pk_mul, pk_sub, nI_clamp, inB_nI, gd_true, bnd_def, nI_leI, nI_ltI, nI_eq, nI_mI, mI_nI, nle_T, nle_F, nlt_T, nlt_F, neq_T, neq_F, ↓reduceIte, Nat.add_zero, Nat.zero_add, Nat.mul_zero, Nat.reduceAdd, Nat.reduceMul, Nat.reduceSub]
    · obtain ⟨z1, z2, z3, z4⟩ := h
      exact ⟨fun i hi => by rw [upd_n (by omega), upd_n (by omega)]; exact z1 i hi, z2, z3, z4⟩
    · intro g hg6
      obtain ⟨q1, q2, q3, q4⟩ := hg g hg6
      refine ⟨?_, ?_, ?_, ?_⟩
      · rw [upd_n (by omega), upd_n (by omega), q1]
      · rw [upd_n (by omega), upd_n (by omega), q2]
      · rw [upd_n (by omega), upd_n (by omega), q3]
      · rw [upd_n (by omega), upd_n (by omega), q4]
    · intro m hm5
      rw [upd_n (by omega), upd_n (by omega)]; exact hm m hm5
  | j + 1, k, c, n + 1, hk, hn, h, hg, hm => by
    obtain ⟨c', h1, h2⟩ := tk185 hG hM (x := x) (y := y) (z := z) (mr := mr) (mg := mg) (mm := mm) j (k + 1) (upd c (60 + k) (mI 1)) n (by omega) (by omega) (by
      obtain ⟨z1, z2, z3, z4⟩ := h
      refine ⟨fun i hi => ?_, ?_, ?_, ?_⟩
      · rw [upd_n (by omega)]; exact z1 i hi
      · rw [upd_n (by omega)]; exact z2
      · rw [upd_n (by omega)]; exact z3
      · rw [upd_n (by omega)]; exact z4) (fun g hg6 => by
      obtain ⟨q1, q2, q3, q4⟩ := hg g hg6
      rw [upd_n (by omega), upd_n (by omega), upd_n (by omega), upd_n (by omega)]
      exact ⟨q1, q2, q3, q4⟩) (fun m hmk => by
      by_cases e : m = k
      · subst e; rw [upd_y rfl]
      · rw [upd_n (by omega)]; exact hm m (by omega))
    refine ⟨c', ?_, h2⟩
    rw [← h1, show ∀ a b c d e f1 f2 f3 f4 i, f_X12_takePeace_185 (nI G) (nI M) rr rg rm (n + 1) a b c d e f1 f2 f3 f4 i = b_X12_takePeace_185 (nI G) (nI M) rr rg rm (f_X12_takePeace_185 (nI G) (nI M) rr rg rm n) a b c d e f1 f2 f3 f4 i from fun _ _ _ _ _ _ _ _ _ _ => rfl]
    simp (disch := omega) only [b_X12_takePeace_185, neg_nI, lit_nI, nI_add, pk_mul, pk_sub, nI_clamp, inB_nI, gd_true, bnd_def, nI_leI, nI_ltI, nI_eq, nI_mI, mI_nI, nle_T, nle_F, nlt_T, nlt_F, neq_T, neq_F, ↓reduceIte, Nat.add_zero, Nat.zero_add, Nat.mul_zero, Nat.reduceAdd, Nat.reduceMul, Nat.reduceSub]
theorem tk_c (hG : G ≤ 6) (hM : M ≤ 5) (g m x y z : Int32) (mr mg mm c : Nat → Int32) : ∃ mr' mg' mm' c', f_X12_takePeace (nI G) (nI M) rr rg rm g m x y z mr mg mm c = some (nI G, nI G, nI M, nI 0, nI 0, nI 0, mr', mg', mm', c') ∧ (∀ i, i < 2 → mr' i = rr i) ∧ (∀ i, i < 24 → mg' i = rg i) ∧ (∀ i, i < 10 → mm' i = rm i) ∧ tkZ c' ∧ bgG (fun g => mg' (4 * g + 1)) (fun g => mg' (4 * g + 2)) G c' ∧ (∀ m, m < M → c' (60 + m) = mI 1) ∧ c' 66 = mr' 0 ∧ c' 67 = mr' 1 := by
  have hf := fu_le
  obtain ⟨mr', h1, e1⟩ := tk18 (G := G) (M := M) (rr := rr) (rg := rg) (rm := rm) (g := nI G) (m := nI M) (x := x) (y := y) (z := z) (mr := mr) (mg := mg) (mm := mm) (nw := c) 2 0 mr fu (by omega) (by omega) (fun i hi => by omega)
  obtain ⟨mg', h2, e2⟩ := tk43 (G := G) (M := M) (rr := rr) (rg := rg) (rm := rm) (g := nI G) (m := nI M) (x := x) (y := y) (z := z) (mr := mr') (mg := mg) (mm := mm) (nw := c) 24 0 mg fu (by omega) (by omega) (fun i hi => by omega)
  obtain ⟨mm', h3, e3⟩ := tk69 (G := G) (M := M) (rr := rr) (rg := rg) (rm := rm) (g := nI G) (m := nI M) (x := x) (y := y) (z := z) (mr := mr') (mg := mg') (mm := mm) (nw := c) 10 0 mm fu (by omega) (by omega) (fun i hi => by omega)
  obtain ⟨c1, h4, e4⟩ := tk95 (G := G) (M := M) (rr := rr) (rg := rg) (rm := rm) (g := nI G) (m := nI M) (x := x) (y := y) (z := z) (mr := mr') (mg := mg') (mm := mm') (nw := c) 250 0 c fu (by omega) (by omega) (fun i hi => by omega)
  obtain ⟨c2, h5, h6, e5⟩ := tk117 (M := M) (rr := rr) (rg := rg) (rm := rm) hG (x := x) (y := y) (z := z) (mr := mr') (mg := mg') (mm := mm') G 0 c1 fu (by omega) (by omega) ⟨fun i hi => h4 i (by omega), h4 65 (by omega), h4 68 (by omega), h4 69 (by omega)⟩ (fun g hg => by omega)
  obtain ⟨c3, e6, r⟩ := tk185 (rr := rr) (rg := rg) (rm := rm) hG hM (x := x) (y := y) (z := z) (mr := mr') (mg := mg') (mm := mm') M 0 c2 fu (by omega) (by omega) h5 h6 (fun g hg => by omega)
  refine ⟨mr', mg', mm', c3, ?_, h1, h2, h3, r⟩
  show f_X12_takePeace_18 (nI G) (nI M) rr rg rm fu (nI G) (nI M) x y z mr mg mm c (nI 0) = _
  rw [e1, e2, e3, e4, e5, e6]
end TK
end
section
/-! a peace is taken alike by both -/
/-- what is told, by both -/
def TO (G M : Nat) (pd cn : Int32) (th tf ts ta tw tn mr mg mm : Nat → Int32) : Prop := RP G M pd cn th tf ts ta tw tn mr mg mm ∧ 0 < cnt th (nI 0) G ∧ 0 < cnt th (nI 1) G
theorem cnt_cong {a b : Nat → Int32} {h : Int32} : ∀ k, (∀ i, i < k → b i = a i) → cnt b h k = cnt a h k
  | 0, _ => rfl
  | k + 1, e => by
    have ih := cnt_cong (a := a) (b := b) (h := h) k (fun i hi => e i (by omega))
    by_cases q : a k = h
    · rw [cnt_y q, cnt_y (by rw [e k (by omega)]; exact q), ih]
    · rw [cnt_n q, cnt_n (by rw [e k (by omega)]; exact q), ih]
theorem RP_cong {G M : Nat} {pd cn : Int32} {ho fe st af we ne rr rg rm th tf ts ta tw tn mr mg mm : Nat → Int32} (h : RP G M pd cn ho fe st af we ne rr rg rm) (e1 : ∀ i, i < 6 → th i = ho i) (e2 : ∀ i, i < 6 → tf i = fe i) (e3 : ∀ i, i < 6 → ts i = st i) (e4 : ∀ i, i < 6 → ta i = af i) (e5 : ∀ i, i < 5 → tw i = we i) (e6 : ∀ i, i < 5 → tn i = ne i) (e7 : ∀ i, i < 2 → mr i = rr i) (e8 : ∀ i, i < 24 → mg i = rg i) (e9 : ∀ i, i < 10 → mm i = rm i) : RP G M pd cn th tf ts ta tw tn mr mg mm := by
  obtain ⟨h1, h2, h3, h4, h5, h6⟩ := h
  refine ⟨h1, h2, by rw [e7 0 (by omega)]; exact h3, by rw [e7 1 (by omega)]; exact h4, fun g hg => ?_, fun m hm => ?_⟩
  · rw [e8 (4 * g) (by omega), e8 (4 * g + 1) (by omega), e8 (4 * g + 2) (by omega), e8 (4 * g + 3) (by omega), e1 g (by omega), e2 g (by omega), e3 g (by omega), e4 g (by omega)]
    exact h5 g hg
  · rw [e9 (2 * m) (by omega), e9 (2 * m + 1) (by omega), e5 m (by omega), e6 m (by omega)]
    exact h6 m hm
/-- what the text of a peace does, reading and taking -/
noncomputable def hd_takePeace (tape_bytes : Nat → Int32) (plT : Nat → Int32) (pmT : Nat → Int32) (puT : Nat → Int32) (x_imaged : Int32) (tape_length : Int32) (tape_at : Int32) (pr_ruled : Int32) (pr_values : Nat → Int32) (told_gloves : Int32) (told_matters : Int32) (told_pride : Int32) (told_coins : Int32) (told_house : Nat → Int32) (told_free : Nat → Int32) (told_stuffed : Nat → Int32) (told_after : Nat → Int32) (told_weight : Nat → Int32) (told_need : Nat → Int32) (read_gloves : Int32) (read_matters : Int32) (read_pride : Int32) (read_coins : Int32) (read_house : Nat → Int32) (read_free : Nat → Int32) (read_stuffed : Nat → Int32) (read_after : Nat → Int32) (read_weight : Nat → Int32) (read_need : Nat → Int32) (now_cells : Nat → Int32) (acts_size : Int32) (sg_size : Int32) : Option (Int32 × Int32 × Int32 × Int32 × Int32 × (Nat → Int32) × Int32 × Int32 × Int32 × Int32 × (Nat → Int32) × (Nat → Int32) × (Nat → Int32) × (Nat → Int32) × (Nat → Int32) × (Nat → Int32) × Int32 × Int32 × Int32 × Int32 × (Nat → Int32) × (Nat → Int32) × (Nat → Int32) × (Nat → Int32) × (Nat → Int32) × (Nat → Int32) × (Nat → Int32) × Int32 × Int32) :=
  ob14 (f_X6_readsAll tape_length tape_bytes plT pmT puT tape_at pr_ruled pr_values read_gloves read_matters read_pride read_coins read_house read_free read_stuffed read_after read_weight read_need) fun r_1 tape_at_2 pr_ruled_3 pr_values_4 read_gloves_5 read_matters_6 read_pride_7 read_coins_8 read_house_9 read_free_10 read_stuffed_11 read_after_12 read_weight_13 read_need_14 =>
  if r_1 = (0 : Int32) then
    some ((-1 : Int32), x_imaged, tape_length, tape_at_2, pr_ruled_3, pr_values_4, told_gloves, told_matters, told_pride, told_coins, told_house, told_free, told_stuffed, told_after, told_weight, told_need, read_gloves_5, read_matters_6, read_pride_7, read_coins_8, read_house_9, read_free_10, read_stuffed_11, read_after_12, read_weight_13, read_need_14, now_cells, acts_size, sg_size)
  else
    ob10 (f_X5_copyFrom read_gloves_5 read_matters_6 read_pride_7 read_coins_8 read_house_9 read_free_10 read_stuffed_11 read_after_12 read_weight_13 read_need_14 told_gloves told_matters told_pride told_coins told_house told_free told_stuffed told_after told_weight told_need) fun told_gloves_16 told_matters_17 told_pride_18 told_coins_19 told_house_20 told_free_21 told_stuffed_22 told_after_23 told_weight_24 told_need_25 =>
    ob1 (f_X9_begin told_pride_18 told_coins_19 told_free_21 told_stuffed_22 now_cells) fun now_cells_27 =>
    ob1 (f_X0_forget acts_size) fun acts_size_29 =>
    some (told_gloves_16, (0 : Int32), (0 : Int32), tape_at_2, pr_ruled_3, pr_values_4, told_gloves_16, told_matters_17, told_pride_18, told_coins_19, told_house_20, told_free_21, told_stuffed_22, told_after_23, told_weight_24, told_need_25, read_gloves_5, read_matters_6, read_pride_7, read_coins_8, read_house_9, read_free_10, read_stuffed_11, read_after_12, read_weight_13, read_need_14, now_cells_27, acts_size_29, (0 : Int32))
section TP
variable {n : Nat} {t u plT pmT puT : Nat → Int32}
theorem copyP {a b c d a' b' c' d' : Int32} {ho fe st af we ne th tf ts ta tw tn : Nat → Int32} : f_X5_copyFrom a b c d ho fe st af we ne a' b' c' d' th tf ts ta tw tn = some (a, b, c, d, va_cpy ho th 0 0 6, va_cpy fe tf 0 0 6, va_cpy st ts 0 0 6, va_cpy af ta 0 0 6, va_cpy we tw 0 0 5, va_cpy ne tn 0 0 5) := by
  simp (disch := omega) only [f_X5_copyFrom, b_X5_copyFrom_0, spB_c, neg_nI, lit_nI, nI_add, pk_mul, pk_sub, nI_clamp, inB_nI, gd_true, bnd_def, nI_leI, nI_ltI, nI_eq, nI_mI, mI_nI, nle_T, nle_F, nlt_T, nlt_F, neq_T, neq_F, ↓reduceIte, Nat.add_zero, Nat.zero_add, Nat.mul_zero, Nat.reduceAdd, Nat.reduceMul, Nat.reduceSub]
/-- the first state by both -/
theorem first_RC {G M : Nat} {pd cn : Int32} {th tf ts ta tw tn mr mg mm c m : Nat → Int32} (bk : Nat → Int32) (h : RP G M pd cn th tf ts ta tw tn mr mg mm) (x1 : ∀ i, i < 36 → c i = nI 0) (x2 : bgG tf ts 6 c) (x3 : ∀ m, m < 5 → c (60 + m) = mI 1) (x4 : c 65 = nI 0) (x5 : c 66 = pd) (x6 : c 67 = cn) (x7 : c 68 = nI 0) (y1 : tkZ m) (y2 : bgG (fun g => mg (4 * g + 1)) (fun g => mg (4 * g + 2)) G m) (y3 : ∀ k, k < M → m (60 + k) = mI 1) (y4 : m 66 = mr 0) (y5 : m 67 = mr 1) : RC G M th bk 0 c m := by
  obtain ⟨h1, h2, h3, h4, h5, h6⟩ := h
  obtain ⟨z1, z2, z3, z4⟩ := y1
  refine ⟨?_, ⟨fun i hi => ⟨0, by omega, x1 i hi, Or.inl rfl⟩, fun g hg => ?_, 0, by omega, x7⟩, ⟨x7, by omega⟩, ?_, fun r hr => by omega⟩
  · intro i hi
    rcases hi with q | ⟨q, q'⟩ | ⟨q, q'⟩ | ⟨q, q'⟩ | ⟨q, q'⟩ | ⟨q, q'⟩ | ⟨q, q'⟩
    · rw [z1 i q, x1 i q]
    · obtain ⟨g, rfl⟩ : ∃ g, i = 36 + g := ⟨i - 36, by omega⟩
      rw [(y2 g (by omega)).1, (x2 g (by omega)).1]
      exact (h5 g (by omega)).2.1.1
    · obtain ⟨g, rfl⟩ : ∃ g, i = 42 + g := ⟨i - 42, by omega⟩
      rw [(y2 g (by omega)).2.1, (x2 g (by omega)).2.1]
      exact (h5 g (by omega)).2.2.1.1
    · obtain ⟨g, rfl⟩ : ∃ g, i = 48 + g := ⟨i - 48, by omega⟩
      rw [(y2 g (by omega)).2.2.1, (x2 g (by omega)).2.2.1]
    · obtain ⟨g, rfl⟩ : ∃ g, i = 54 + g := ⟨i - 54, by omega⟩
      rw [(y2 g (by omega)).2.2.2, (x2 g (by omega)).2.2.2]
    · obtain ⟨g, rfl⟩ : ∃ g, i = 60 + g := ⟨i - 60, by omega⟩
      rw [y3 g (by omega), x3 g (by omega)]
    · have e : i = 65 ∨ i = 66 ∨ i = 67 ∨ i = 68 := by omega
      rcases e with rfl | rfl | rfl | rfl
      · rw [z2, x4]
      · rw [y4, x5, h3.1]
      · rw [y5, x6, h4.1]
      · rw [z3, x7]
  · obtain ⟨x, hx, e⟩ := (h5 g hg).2.1.2
    exact ⟨x, hx, by rw [(x2 g (by omega)).1, e]⟩
  · exact z4
theorem s_takePeace (hn : n ≤ 240) (h : RT n t u) (tb : TB plT pmT puT) (bk : Nat → Int32) (xi a ru v1 v2 v3 v4 w1 w2 w3 w4 as sgs y1 y2 y3 y4 g m ma mo mi : Int32) (vl th tf ts ta tw tn ho fe st af we ne c rr rg rm mr mg mm mw : Nat → Int32) : (∃ (ru' : Nat) (vl' : Nat → Int32) (G M : Nat) (pd cn : Int32) (th' tf' ts' ta' tw' tn' ho' fe' st' af' we' ne' c' rr' rg' rm' mr' mg' mm' mw' : Nat → Int32), hd_takePeace t plT pmT puT xi (nI n) a ru vl v1 v2 v3 v4 th tf ts ta tw tn w1 w2 w3 w4 ho fe st af we ne c as sgs = some (nI G, nI 0, nI 0, nI n, nI ru', vl', nI G, nI M, pd, cn, th', tf', ts', ta', tw', tn', nI G, nI M, pd, cn, ho', fe', st', af', we', ne', c', nI 0, nI 0) ∧ f_X12_readPeace (nI n) u y1 y2 y3 y4 rr rg rm = some (mI 1, nI n, mI 1, nI G, nI M, rr', rg', rm') ∧ f_X12_takePeace (nI G) (nI M) rr' rg' rm' g m ma mo mi mr mg mm mw = some (nI G, nI G, nI M, nI 0, nI 0, nI 0, mr', mg', mm', mw') ∧ ru' ≤ 1 ∧ TO G M pd cn th' tf' ts' ta' tw' tn' mr' mg' mm' ∧ RC G M th' bk 0 c' mw') ∨ (∃ (a' ru' : Nat) (vl' : Nat → Int32) (G M pd cn : Int32) (ho' fe' st' af' we' ne' : Nat → Int32) (G' M' : Int32) (rr' rg' rm' : Nat → Int32), a' ≤ n ∧ ru' ≤ 1 ∧ hd_takePeace t plT pmT puT xi (nI n) a ru vl v1 v2 v3 v4 th tf ts ta tw tn w1 w2 w3 w4 ho fe st af we ne c as sgs = some (mI 1, xi, nI n, nI a', nI ru', vl', v1, v2, v3, v4, th, tf, ts, ta, tw, tn, G, M, pd, cn, ho', fe', st', af', we', ne', c, as, sgs) ∧ f_X12_readPeace (nI n) u y1 y2 y3 y4 rr rg rm = some (nI a', nI a', nI a', G', M', rr', rg', rm')) := by
  rcases s_peace hn h tb a ru w1 w2 w3 w4 y1 y2 y3 y4 vl ho fe st af we ne rr rg rm with ⟨ru', vl', G, M, pd, cn, ho', fe', st', af', we', ne', rr', rg', rm', e1, e2, e3, e4, e5, e6⟩ | ⟨a', ru', vl', G, M, pd, cn, ho', fe', st', af', we', ne', G', M', rr', rg', rm', e0, e3, e1, e2⟩
  · left
    obtain ⟨mr', mg', mm', mw', k1, k2, k3, k4, k5, k6, k7, k8, k9⟩ := tk_c (rr := rr') (rg := rg') (rm := rm') e4.1 e4.2.1 g m ma mo mi mr mg mm mw
    obtain ⟨c', b1, b2, b3, b4, b5, b6, b7, b8⟩ := bg_c (pd := pd) (cn := cn) (fe := va_cpy fe' tf 0 0 6) (st := va_cpy st' ts 0 0 6) c
    have hR : RP G M pd cn (va_cpy ho' th 0 0 6) (va_cpy fe' tf 0 0 6) (va_cpy st' ts 0 0 6) (va_cpy af' ta 0 0 6) (va_cpy we' tw 0 0 5) (va_cpy ne' tn 0 0 5) mr' mg' mm' := RP_cong e4 (fun i hi => cpy0 hi) (fun i hi => cpy0 hi) (fun i hi => cpy0 hi) (fun i hi => cpy0 hi) (fun i hi => cpy0 hi) (fun i hi => cpy0 hi) k2 k3 k4
    have hG := e4.1
    refine ⟨ru', vl', G, M, pd, cn, va_cpy ho' th 0 0 6, va_cpy fe' tf 0 0 6, va_cpy st' ts 0 0 6, va_cpy af' ta 0 0 6, va_cpy we' tw 0 0 5, va_cpy ne' tn 0 0 5, ho', fe', st', af', we', ne', c', rr', rg', rm', mr', mg', mm', mw', ?_, e2, k1, e3, ⟨hR, ?_, ?_⟩, first_RC bk hR b2 b3 b4 b5 b6 b7 b8 k5 k6 k7 k8 k9⟩
    · unfold hd_takePeace
      rw [e1, ob14_e, if_neg (show ¬ nI 1 = (0 : Int32) by decide), copyP, ob10_e, b1, ob1_e]
      rfl
    · rw [cnt_cong G (fun i hi => cpy0 (show i < 6 by omega))]; exact e5
    · rw [cnt_cong G (fun i hi => cpy0 (show i < 6 by omega))]; exact e6
  · right
    refine ⟨a', ru', vl', G, M, pd, cn, ho', fe', st', af', we', ne', G', M', rr', rg', rm', e0, e3, ?_, e2⟩
    unfold hd_takePeace
    rw [e1, ob14_e, if_pos (show nI 0 = (0 : Int32) from rfl)]
    rfl
end TP
end
section
/-! faults and texts by both -/
section TX
variable {n : Nat} {t u llT plT pmT puT : Nat → Int32}
theorem s_fault (hn : n ≤ 240) (h : RT n t u) (tb : TB plT pmT puT) (tl : LT6 llT) {N : Nat} {ll l0 l1 l2 l3 mc mv mk mt ms mu : Nat → Int32} (hL : RLw N ll l0 l1 l2 l3 mc mv mk mt ms mu) (at' ru ls w1 w2 w3 w4 y1 y2 y3 y4 y5 y6 v : Int32) (vl lc ho fe st af we ne mo rr rg rm : Nat → Int32) (hru : ru = nI 0 ∨ ru = nI 1) : ∃ r a1 ru1 vl1 ls1 lc1 v1 v2 v3 v4 ho1 fe1 st1 af1 we1 ne1 z1 z2 z3 z4 z5 z6 mc1 mv1 mo1 mk1 mt1 ms1 mu1 rr1 rg1 rm1, f_X11_fault (nI n) t llT plT pmT puT at' ru vl ls lc w1 w2 w3 w4 ho fe st af we ne v = some (r, a1, ru1, vl1, ls1, lc1, v1, v2, v3, v4, ho1, fe1, st1, af1, we1, ne1) ∧ f_X12_fault (nI n) u y1 y2 y3 y4 y5 y6 mc mv mo mk mt ms mu rr rg rm v = some (r, z1, z2, z3, z4, z5, z6, mc1, mv1, mo1, mk1, mt1, ms1, mu1, rr1, rg1, rm1) ∧ (ru1 = nI 0 ∨ ru1 = nI 1) ∧ RLw N ll l0 l1 l2 l3 mc1 mv1 mk1 mt1 ms1 mu1 := by
  have ru01 : ∀ k : Nat, k ≤ 1 → (nI k = nI 0 ∨ nI k = nI 1) := fun k hk => by
    have : k = 0 ∨ k = 1 := by omega
    rcases this with rfl | rfl
    · exact Or.inl rfl
    · exact Or.inr rfl
  by_cases q0 : v = nI 0
  · subst q0
    rcases s_peace hn h tb at' ru w1 w2 w3 w4 y1 y2 y5 y6 vl ho fe st af we ne rr rg rm with ⟨ru', vl', G, M, pd, cn, ho', fe', st', af', we', ne', rr', rg', rm', e1, e2, e3, e4, e5, e6⟩ | ⟨a', ru', vl', G, M, pd, cn, ho', fe', st', af', we', ne', G', M', rr', rg', rm', e0, e3, e1, e2⟩
    · refine ⟨mI 1, nI n, nI ru', vl', ls, lc, nI G, nI M, pd, cn, ho', fe', st', af', we', ne', nI n, mI 1, y3, y4, nI G, nI M, mc, mv, mo, mk, mt, ms, mu, rr', rg', rm', ?_, ?_, ru01 ru' e3, hL⟩
      · unfold f_X11_fault b_X11_fault_0
        rw [if_pos (show nI 0 = (0 : Int32) from rfl)]
        unfold b_X11_fault_12
        rw [if_pos (show nI 0 = (0 : Int32) from rfl), e1, ob14_e]
        unfold b_X11_fault_33
        rw [if_neg (show ¬ nI 1 = (0 : Int32) by decide)]
        rfl
      · unfold f_X12_fault b_X12_fault_0
        rw [if_pos (show nI 0 = (0 : Int32) from rfl), e2, ob8_e]
    · refine ⟨nI a', nI a', nI ru', vl', ls, lc, G, M, pd, cn, ho', fe', st', af', we', ne', nI a', nI a', y3, y4, G', M', mc, mv, mo, mk, mt, ms, mu, rr', rg', rm', ?_, ?_, ru01 ru' e3, hL⟩
      · unfold f_X11_fault b_X11_fault_0
        rw [if_pos (show nI 0 = (0 : Int32) from rfl)]
        unfold b_X11_fault_12
        rw [if_pos (show nI 0 = (0 : Int32) from rfl), e1, ob14_e]
        unfold b_X11_fault_33
        rw [if_pos (show nI 0 = (0 : Int32) from rfl)]
      · unfold f_X12_fault b_X12_fault_0
        rw [if_pos (show nI 0 = (0 : Int32) from rfl), e2, ob8_e]
  have q0' : ¬ v = (0 : Int32) := q0
  by_cases q1 : v = nI 1
  · subst q1
    rcases s_readLaw hn h tl (tx := 4) (by omega) at' ls y1 y2 y3 y4 lc mc mv mo mk mt ms mu with ⟨CS, mo2, mk2, mt2, ms2, mu2, g1, g2, g3, g4, g5, g6, g7, g8, g9⟩ | ⟨a, z1, z2, p, q, mc2, mv2, mo2, mk2, mt2, ms2, mu2, g1, g2, g3, g4⟩
    · refine ⟨mI 1, nI n, ru, vl, nI (XS CS).length, ap cs lc 0 (XS CS), w1, w2, w3, w4, ho, fe, st, af, we, ne, nI n, mI 1, nI 0, nI 4, y5, y6, ap tc mc (520 * 4) (YS CS), ap tv mv (520 * 4) (YS CS), mo2, mk2, mt2, ms2, mu2, rr, rg, rm, ?_, ?_, hru, RLw_frm hL.1 hL g9⟩
      · unfold f_X11_fault b_X11_fault_0
        rw [if_neg q0', if_pos (show nI 1 = (1 : Int32) from rfl)]
        unfold b_X11_fault_12
        rw [if_neg q0', g5, ob4_e]
        unfold b_X11_fault_33
        rw [if_neg (show ¬ nI 1 = (0 : Int32) by decide)]
        rfl
      · unfold f_X12_fault b_X12_fault_0
        rw [if_neg q0', if_pos (show nI 1 = (1 : Int32) from rfl)]
        rw [show f_X12_readLaw (nI n) u y1 y2 y3 y4 mc mv mo mk mt ms mu (4 : Int32) = _ from g6, ob12_e]
    · refine ⟨nI a, nI a, ru, vl, z1, z2, w1, w2, w3, w4, ho, fe, st, af, we, ne, p, nI a, q, nI 4, y5, y6, mc2, mv2, mo2, mk2, mt2, ms2, mu2, rr, rg, rm, ?_, ?_, hru, RLw_frm hL.1 hL g4⟩
      · unfold f_X11_fault b_X11_fault_0
        rw [if_neg q0', if_pos (show nI 1 = (1 : Int32) from rfl)]
        unfold b_X11_fault_12
        rw [if_neg q0', g2, ob4_e]
        unfold b_X11_fault_33
        rw [if_pos (show nI 0 = (0 : Int32) from rfl)]
      · unfold f_X12_fault b_X12_fault_0
        rw [if_neg q0', if_pos (show nI 1 = (1 : Int32) from rfl)]
        rw [show f_X12_readLaw (nI n) u y1 y2 y3 y4 mc mv mo mk mt ms mu (4 : Int32) = _ from g3, ob12_e]
  · have q1' : ¬ v = (1 : Int32) := q1
    refine ⟨mI 2, at', ru, vl, ls, lc, w1, w2, w3, w4, ho, fe, st, af, we, ne, y1, y2, y3, y4, y5, y6, mc, mv, mo, mk, mt, ms, mu, rr, rg, rm, ?_, ?_, hru, hL⟩
    · unfold f_X11_fault b_X11_fault_0
      rw [if_neg q0', if_neg q1']
      rfl
    · unfold f_X12_fault b_X12_fault_0
      rw [if_neg q0', if_neg q1']
      rfl
end TX
end
section
/-! texts by both -/
theorem text0_l (tape_bytes : Nat → Int32) (llT : Nat → Int32) (plT : Nat → Int32) (pmT : Nat → Int32) (puT : Nat → Int32) (x_imaged : Int32) (tape_length : Int32) (tape_at : Int32) (pr_ruled : Int32) (pr_values : Nat → Int32) (lr_size : Int32) (lr_code : Nat → Int32) (told_gloves : Int32) (told_matters : Int32) (told_pride : Int32) (told_coins : Int32) (told_house : Nat → Int32) (told_free : Nat → Int32) (told_stuffed : Nat → Int32) (told_after : Nat → Int32) (told_weight : Nat → Int32) (told_need : Nat → Int32) (read_gloves : Int32) (read_matters : Int32) (read_pride : Int32) (read_coins : Int32) (read_house : Nat → Int32) (read_free : Nat → Int32) (read_stuffed : Nat → Int32) (read_after : Nat → Int32) (read_weight : Nat → Int32) (read_need : Nat → Int32) (laws_size : Int32) (laws_lengths : Nat → Int32) (laws_c0 : Nat → Int32) (laws_c1 : Nat → Int32) (laws_c2 : Nat → Int32) (laws_c3 : Nat → Int32) (now_cells : Nat → Int32) (acts_size : Int32) (sg_size : Int32) : f_X11_text tape_bytes llT plT pmT puT x_imaged tape_length tape_at pr_ruled pr_values lr_size lr_code told_gloves told_matters told_pride told_coins told_house told_free told_stuffed told_after told_weight told_need read_gloves read_matters read_pride read_coins read_house read_free read_stuffed read_after read_weight read_need laws_size laws_lengths laws_c0 laws_c1 laws_c2 laws_c3 now_cells acts_size sg_size (nI 0) = ob29 (hd_takePeace tape_bytes plT pmT puT x_imaged tape_length tape_at pr_ruled pr_values told_gloves told_matters told_pride told_coins told_house told_free told_stuffed told_after told_weight told_need read_gloves read_matters read_pride read_coins read_house read_free read_stuffed read_after read_weight read_need now_cells acts_size sg_size) fun r_13 x_imaged_14 tape_length_15 tape_at_16 pr_ruled_17 pr_values_18 told_gloves_19 told_matters_20 told_pride_21 told_coins_22 told_house_23 told_free_24 told_stuffed_25 told_after_26 told_weight_27 told_need_28 read_gloves_29 read_matters_30 read_pride_31 read_coins_32 read_house_33 read_free_34 read_stuffed_35 read_after_36 read_weight_37 read_need_38 now_cells_39 acts_size_40 sg_size_41 => some (r_13, x_imaged_14, tape_length_15, tape_at_16, pr_ruled_17, pr_values_18, lr_size, lr_code, told_gloves_19, told_matters_20, told_pride_21, told_coins_22, told_house_23, told_free_24, told_stuffed_25, told_after_26, told_weight_27, told_need_28, read_gloves_29, read_matters_30, read_pride_31, read_coins_32, read_house_33, read_free_34, read_stuffed_35, read_after_36, read_weight_37, read_need_38, laws_size, laws_lengths, laws_c0, laws_c1, laws_c2, laws_c3, now_cells_39, acts_size_40, sg_size_41) := by
  unfold f_X11_text b_X11_text_0 hd_takePeace
  rw [if_pos (show nI 0 = (0 : Int32) from rfl)]
  rcases f_X6_readsAll tape_length tape_bytes plT pmT puT tape_at pr_ruled pr_values read_gloves read_matters read_pride read_coins read_house read_free read_stuffed read_after read_weight read_need with _ | ⟨r, a1, a2, a3, a4, a5, a6, a7, a8, a9, a10, a11, a12, a13⟩
  · rfl
  · rw [ob14_e, ob14_e]
    by_cases q : r = (0 : Int32)
    · rw [if_pos q, if_pos q, ob29_e]
      unfold b_X11_text_19
      rw [if_neg (show ¬ nI 0 = (1 : Int32) by decide)]
    · rw [if_neg q, if_neg q]
      unfold f_X11_takePeace b_X11_takePeace_0
      obtain ⟨c', b1, -⟩ := bg_c (pd := a6) (cn := a7) (fe := va_cpy a9 told_free 0 0 6) (st := va_cpy a10 told_stuffed 0 0 6) now_cells
      rw [copyP, ob10_e, ob10_e, b1, ob1_e, ob1_e]
      rfl
theorem text1_l (tape_bytes : Nat → Int32) (llT : Nat → Int32) (plT : Nat → Int32) (pmT : Nat → Int32) (puT : Nat → Int32) (x_imaged : Int32) (tape_length : Int32) (tape_at : Int32) (pr_ruled : Int32) (pr_values : Nat → Int32) (lr_size : Int32) (lr_code : Nat → Int32) (told_gloves : Int32) (told_matters : Int32) (told_pride : Int32) (told_coins : Int32) (told_house : Nat → Int32) (told_free : Nat → Int32) (told_stuffed : Nat → Int32) (told_after : Nat → Int32) (told_weight : Nat → Int32) (told_need : Nat → Int32) (read_gloves : Int32) (read_matters : Int32) (read_pride : Int32) (read_coins : Int32) (read_house : Nat → Int32) (read_free : Nat → Int32) (read_stuffed : Nat → Int32) (read_after : Nat → Int32) (read_weight : Nat → Int32) (read_need : Nat → Int32) (laws_size : Int32) (laws_lengths : Nat → Int32) (laws_c0 : Nat → Int32) (laws_c1 : Nat → Int32) (laws_c2 : Nat → Int32) (laws_c3 : Nat → Int32) (now_cells : Nat → Int32) (acts_size : Int32) (sg_size : Int32) : f_X11_text tape_bytes llT plT pmT puT x_imaged tape_length tape_at pr_ruled pr_values lr_size lr_code told_gloves told_matters told_pride told_coins told_house told_free told_stuffed told_after told_weight told_need read_gloves read_matters read_pride read_coins read_house read_free read_stuffed read_after read_weight read_need laws_size laws_lengths laws_c0 laws_c1 laws_c2 laws_c3 now_cells acts_size sg_size (nI 1) = ob11 (hd_takeLaw tape_bytes llT tape_length tape_at lr_size lr_code laws_size laws_lengths laws_c0 laws_c1 laws_c2 laws_c3) fun r_1 tape_length_2 tape_at_3 lr_size_4 lr_code_5 laws_size_6 laws_lengths_7 laws_c0_8 laws_c1_9 laws_c2_10 laws_c3_11 => some (r_1, x_imaged, tape_length_2, tape_at_3, pr_ruled, pr_values, lr_size_4, lr_code_5, told_gloves, told_matters, told_pride, told_coins, told_house, told_free, told_stuffed, told_after, told_weight, told_need, read_gloves, read_matters, read_pride, read_coins, read_house, read_free, read_stuffed, read_after, read_weight, read_need, laws_size_6, laws_lengths_7, laws_c0_8, laws_c1_9, laws_c2_10, laws_c3_11, now_cells, acts_size, sg_size) := by
  unfold f_X11_text b_X11_text_0 hd_takeLaw
  rw [if_neg (show ¬ nI 1 = (0 : Int32) by decide)]
  unfold b_X11_text_19
  rw [if_pos (show nI 1 = (1 : Int32) from rfl)]
  rcases f_X2_isFull laws_size with _ | r
  · rfl
  rw [ob1_e, ob1_e]
  by_cases q : r = (0 : Int32)
  · rw [if_pos q, if_pos q]
    rcases f_X1_readsAll tape_length tape_bytes llT tape_at lr_size lr_code with _ | ⟨r2, a1, a2, a3⟩
    · rfl
    · rw [ob4_e, ob4_e]
      by_cases q2 : r2 = (0 : Int32)
      · rw [if_pos q2, if_pos q2, ob11_e]
      · rw [if_neg q2, if_neg q2]
        unfold f_X11_takeLaw b_X11_takeLaw_0
        rcases f_X2_add a3 241 laws_size laws_lengths laws_c0 laws_c1 laws_c2 laws_c3 a2 with _ | ⟨b1, b2, b3, b4, b5, b6⟩
        · rfl
        · rfl
  · rw [if_neg q, if_neg q, ob11_e]
section TY
variable {n : Nat} {t u llT plT pmT puT : Nat → Int32}
theorem s_text (hn : n ≤ 240) (h : RT n t u) (tb : TB plT pmT puT) (tl : LT6 llT) {N : Nat} {ll l0 l1 l2 l3 mc mv mk mt ms mu : Nat → Int32} (hL : RLw N ll l0 l1 l2 l3 mc mv mk mt ms mu) (bk : Nat → Int32) (xi a ru ls v1 v2 v3 v4 w1 w2 w3 w4 as sgs y1 y2 dp tx y3 y4 g m ma no mi v : Int32) (vl lc th tf ts ta tw tn ho fe st af we ne c mo rr rg rm mr mg mm mw : Nat → Int32) (hru : ru = nI 0 ∨ ru = nI 1) : (∃ (ru' : Nat) (vl' : Nat → Int32) (G M : Nat) (pd cn z1 z2 : Int32) (th' tf' ts' ta' tw' tn' ho' fe' st' af' we' ne' c' rr' rg' rm' mr' mg' mm' mw' : Nat → Int32), f_X11_text t llT plT pmT puT xi (nI n) a ru vl ls lc v1 v2 v3 v4 th tf ts ta tw tn w1 w2 w3 w4 ho fe st af we ne (nI N) ll l0 l1 l2 l3 c as sgs v = some (nI G, nI 0, nI 0, nI n, nI ru', vl', ls, lc, nI G, nI M, pd, cn, th', tf', ts', ta', tw', tn', nI G, nI M, pd, cn, ho', fe', st', af', we', ne', nI N, ll, l0, l1, l2, l3, c', nI 0, nI 0) ∧ f_X12_text u (nI n) y1 y2 dp (nI N) tx y3 y4 g m ma no mi mc mv mo mk mt ms mu rr rg rm mr mg mm mw v = some (nI G, nI 0, z1, z2, dp, nI N, tx, nI G, nI M, nI G, nI M, nI 0, nI 0, nI 0, mc, mv, mo, mk, mt, ms, mu, rr', rg', rm', mr', mg', mm', mw') ∧ ru' ≤ 1 ∧ TO G M pd cn th' tf' ts' ta' tw' tn' mr' mg' mm' ∧ RC G M th' bk 0 c' mw') ∨ (∃ (r : Int32) (n' N' : Nat) (a1 ru1 ls1 : Int32) (vl1 lc1 : Nat → Int32) (x1 x2 x3 x4 z1 z2 z3 z4 z5 z6 : Int32) (ho' fe' st' af' we' ne' ll' c0 c1 c2 c3 mc' mv' mo' mk' mt' ms' mu' rr' rg' rm' : Nat → Int32), f_X11_text t llT plT pmT puT xi (nI n) a ru vl ls lc v1 v2 v3 v4 th tf ts ta tw tn w1 w2 w3 w4 ho fe st af we ne (nI N) ll l0 l1 l2 l3 c as sgs v = some (r, xi, nI n', a1, ru1, vl1, ls1, lc1, v1, v2, v3, v4, th, tf, ts, ta, tw, tn, x1, x2, x3, x4, ho', fe', st', af', we', ne', nI N', ll', c0, c1, c2, c3, c, as, sgs) ∧ f_X12_text u (nI n) y1 y2 dp (nI N) tx y3 y4 g m ma no mi mc mv mo mk mt ms mu rr rg rm mr mg mm mw v = some (r, nI n', z1, z2, z3, nI N', z4, z5, z6, g, m, ma, no, mi, mc', mv', mo', mk', mt', ms', mu', rr', rg', rm', mr, mg, mm, mw) ∧ (ru1 = nI 0 ∨ ru1 = nI 1) ∧ n' ≤ n ∧ N ≤ N' ∧ RLw N' ll' c0 c1 c2 c3 mc' mv' mk' mt' ms' mu') := by
  have ru01 : ∀ k : Nat, k ≤ 1 → (nI k = nI 0 ∨ nI k = nI 1) := fun k hk => by
    have : k = 0 ∨ k = 1 := by omega
    rcases this with rfl | rfl
    · exact Or.inl rfl
    · exact Or.inr rfl
  by_cases q0 : v = nI 0
  · subst q0
    rcases s_takePeace hn h tb bk xi a ru v1 v2 v3 v4 w1 w2 w3 w4 as sgs y1 y2 y3 y4 g m ma no mi vl th tf ts ta tw tn ho fe st af we ne c rr rg rm mr mg mm mw with ⟨ru', vl', G, M, pd, cn, th', tf', ts', ta', tw', tn', ho', fe', st', af', we', ne', c', rr', rg', rm', mr', mg', mm', mw', e1, e2, e3, e4, e5, e6⟩ | ⟨a', ru', vl', G, M, pd, cn, ho', fe', st', af', we', ne', G', M', rr', rg', rm', e0, e3, e1, e2⟩
    · left
      refine ⟨ru', vl', G, M, pd, cn, nI n, mI 1, th', tf', ts', ta', tw', tn', ho', fe', st', af', we', ne', c', rr', rg', rm', mr', mg', mm', mw', ?_, ?_, e4, e5, e6⟩
      · rw [text0_l, e1, ob29_e]
      · unfold f_X12_text b_X12_text_0
        rw [if_pos (show nI 0 = (0 : Int32) from rfl), e2, ob8_e, if_pos (show mI 1 = (-1 : Int32) from rfl), e3, ob10_e]
        rfl
    · right
      refine ⟨mI 1, n, N, nI a', nI ru', ls, vl', lc, G, M, pd, cn, nI a', nI a', dp, tx, G', M', ho', fe', st', af', we', ne', ll, l0, l1, l2, l3, mc, mv, mo, mk, mt, ms, mu, rr', rg', rm', ?_, ?_, ru01 ru' e3, Nat.le_refl _, Nat.le_refl _, hL⟩
      · rw [text0_l, e1, ob29_e]
      · unfold f_X12_text b_X12_text_0
        rw [if_pos (show nI 0 = (0 : Int32) from rfl), e2, ob8_e, if_neg (show ¬ nI a' = (-1 : Int32) from nI_nm (by omega))]
        unfold b_X12_text_22
        rw [if_neg (show ¬ nI 0 = (1 : Int32) by decide)]
        rfl
  have q0' : ¬ v = (0 : Int32) := q0
  right
  by_cases q1 : v = nI 1
  · subst q1
    rcases Nat.lt_or_ge N 4 with hN | hN
    · obtain ⟨r, N', n', a', s', lc', ll', c0, c1, c2, c3, p1, p2, p3, p4, mc', mv', mo', mk', mt', ms', mu', e1, e2, e3, e4⟩ := s_takeLaw hn h tl hL a ls y1 y2 dp tx lc mo hN
      have h4 : ¬ ((4 : Int32) ≤ nI N) := by rw [lit_nI, nI_leI (by omega) (by omega)]; exact Nat.not_le.mpr hN
      refine ⟨r, n', N', a', ru, s', vl, lc', w1, w2, w3, w4, p2, p3, p4, nI N, y3, y4, ho, fe, st, af, we, ne, ll', c0, c1, c2, c3, mc', mv', mo', mk', mt', ms', mu', rr, rg, rm, ?_, ?_, hru, ?_, ?_, e3⟩
      · rw [text1_l, e1, ob11_e]
      · unfold f_X12_text b_X12_text_0
        rw [if_neg q0']
        unfold b_X12_text_22
        rw [if_pos (show nI 1 = (1 : Int32) from rfl), if_neg h4, e2, ob12_e]
        rcases e4 with ⟨rfl, rfl, rfl, rfl⟩ | ⟨ep, rfl, rfl, rfl⟩
        · rw [if_pos (show mI 1 = (-1 : Int32) from rfl)]
          simp only [bnd_def, lit_nI, nI_add]
          rw [pk_sub (by omega), Nat.add_sub_cancel]
        · rw [if_neg (show ¬ p1 = (-1 : Int32) from ep)]
          rfl
      · rcases e4 with ⟨_, _, _, rfl⟩ | ⟨_, _, _, rfl⟩ <;> omega
      · rcases e4 with ⟨_, _, rfl, _⟩ | ⟨_, _, rfl, _⟩ <;> omega
    · have h4 := hL.1
      obtain rfl : N = 4 := by omega
      refine ⟨mI 1, n, 4, a, ru, ls, vl, lc, w1, w2, w3, w4, y1, y2, dp, tx, y3, y4, ho, fe, st, af, we, ne, ll, l0, l1, l2, l3, mc, mv, mo, mk, mt, ms, mu, rr, rg, rm, ?_, ?_, hru, Nat.le_refl _, Nat.le_refl _, hL⟩
      · rw [text1_l]
        unfold hd_takeLaw
        rw [full_y, ob1_e, if_neg (show ¬ nI 1 = (0 : Int32) by decide), ob11_e]
        rfl
      · unfold f_X12_text b_X12_text_0
        rw [if_neg q0']
        unfold b_X12_text_22
        rw [if_pos (show nI 1 = (1 : Int32) from rfl), if_pos (show (4 : Int32) ≤ nI 4 by decide)]
        rfl
  · have q1' : ¬ v = (1 : Int32) := q1
    refine ⟨mI 1, n, N, a, ru, ls, vl, lc, w1, w2, w3, w4, y1, y2, dp, tx, y3, y4, ho, fe, st, af, we, ne, ll, l0, l1, l2, l3, mc, mv, mo, mk, mt, ms, mu, rr, rg, rm, ?_, ?_, hru, Nat.le_refl _, Nat.le_refl _, hL⟩
    · unfold f_X11_text b_X11_text_0
      rw [if_neg q0']
      unfold b_X11_text_19
      rw [if_neg q1']
      rfl
    · unfold f_X12_text b_X12_text_0
      rw [if_neg q0']
      unfold b_X12_text_22
      rw [if_neg q1']
      rfl
end TY
end
section
/-! what the told peace gives to the other theorems -/
section TD
variable {G M : Nat} {pd cn : Int32} {th tf ts ta tw tn mr mg mm : Nat → Int32}
theorem cnt_ex {a : Nat → Int32} {h : Int32} : ∀ k, 0 < cnt a h k → ∃ b, b < k ∧ a b = h
  | 0, q => absurd q (by show ¬ 0 < 0; omega)
  | k + 1, q => by
    by_cases e : a k = h
    · exact ⟨k, by omega, e⟩
    · rw [cnt_n e] at q
      obtain ⟨b, hb, eb⟩ := cnt_ex k q
      exact ⟨b, by omega, eb⟩
theorem TO.h01 (h : TO G M pd cn th tf ts ta tw tn mr mg mm) : ∀ g, g < G → th g = nI 0 ∨ th g = nI 1 := by
  intro g hg
  obtain ⟨x, hx, e⟩ := (h.1.2.2.2.2.1 g hg).1.2
  have : x = 0 ∨ x = 1 := by omega
  rcases this with rfl | rfl
  · exact Or.inl e
  · exact Or.inr e
theorem TO.hex (h : TO G M pd cn th tf ts ta tw tn mr mg mm) : (∃ b, b < G ∧ th b = nI 0) ∧ ∃ b, b < G ∧ th b = nI 1 := ⟨cnt_ex G h.2.1, cnt_ex G h.2.2⟩
theorem TO.hh (h : TO G M pd cn th tf ts ta tw tn mr mg mm) : ∀ g, g < G → mg (4 * g) = th g := fun g hg => (h.1.2.2.2.2.1 g hg).1.1
theorem TO.hf (h : TO G M pd cn th tf ts ta tw tn mr mg mm) : ∀ g, g < G → mg (4 * g + 1) = tf g := fun g hg => (h.1.2.2.2.2.1 g hg).2.1.1
theorem TO.hs (h : TO G M pd cn th tf ts ta tw tn mr mg mm) : ∀ g, g < G → mg (4 * g + 2) = ts g := fun g hg => (h.1.2.2.2.2.1 g hg).2.2.1.1
theorem TO.ha (h : TO G M pd cn th tf ts ta tw tn mr mg mm) : ∀ g, g < G → mg (4 * g + 3) = ta g := fun g hg => (h.1.2.2.2.2.1 g hg).2.2.2.1
theorem TO.hw (h : TO G M pd cn th tf ts ta tw tn mr mg mm) : ∀ m, m < M → mm (2 * m) = tw m ∧ mm (2 * m + 1) = tn m := fun m hm => ⟨(h.1.2.2.2.2.2 m hm).1.1, (h.1.2.2.2.2.2 m hm).2.1⟩
theorem TO.hw9 (h : TO G M pd cn th tf ts ta tw tn mr mg mm) : ∀ m, m < M → ∃ x, x ≤ 9 ∧ tw m = nI x := fun m hm => (h.1.2.2.2.2.2 m hm).1.2
theorem TO.hf9 (h : TO G M pd cn th tf ts ta tw tn mr mg mm) : ∀ g, g < G → ∃ x, x ≤ 9 ∧ tf g = nI x := fun g hg => (h.1.2.2.2.2.1 g hg).2.1.2
theorem s_lawH {N : Nat} {lh : Int32} (hN : N ≤ 4) (hh : HL N lh) (v : Int32) : ∃ r h', f_X11_law (nI N) lh v = some (r, h') ∧ f_X12_law (nI N) lh v = some (r, h') ∧ HL N h' := by
  obtain ⟨r, h', e1, e2, e3⟩ := s_law hN lh v
  refine ⟨r, h', e1, e2, ?_⟩
  rcases e3 with rfl | rfl | ⟨j, hj, rfl⟩
  · exact hh
  · exact Or.inl rfl
  · exact Or.inr ⟨j, hj, rfl⟩
theorem HL.up {N N' : Nat} {lh : Int32} (h : HL N lh) (hN : N ≤ N') : HL N' lh := by
  rcases h with h | ⟨k, hk, e⟩
  · exact Or.inl h
  · exact Or.inr ⟨k, by omega, e⟩
end TD
end
