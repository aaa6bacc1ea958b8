/-! the log, the acts kept, the state with them -/
def RLog (bk : Nat → Int32) (d : Nat) (m : Nat → Int32) : Prop := m 69 = nI (min 60 d) ∧ ∀ r, r < min 60 d → ∀ w, w < 3 → m (70 + (3 * r + w)) = bk ((d - min 60 d + r) % 128 * 3 + w)
def RC (G M : Nat) (th bk : Nat → Int32) (d : Nat) (c m : Nat → Int32) : Prop := RN G M c m ∧ IV G th c ∧ (c 68 = nI d ∧ d ≤ 999) ∧ RLog bk d m
def sh (f : Nat → Int32) (k : Nat) : Nat → Int32 := fun i => f (k + i)
def RA (G M : Nat) (th bk : Nat → Int32) (s nx : Nat) (rows kept : Nat → Int32) (dd : Nat → Nat) : Prop := s ≤ 40 ∧ nx < 40 ∧ ∀ j, j < s → RC G M th bk (dd j) (sh rows (69 * ((nx + 40 - s + j) % 40))) (sh kept (250 * j)) ∧ dd j ≤ dd (j + 1) ∧ dd (j + 1) ≤ dd j + 1
theorem RC.cong {G M : Nat} {th bk : Nat → Int32} {d : Nat} {c m c' m' : Nat → Int32} (hG : G ≤ 6) (hM : M ≤ 5) (h : RC G M th bk d c m) (hc : ∀ i, i < 69 → c' i = c i) (hm : ∀ i, i < 250 → m' i = m i) : RC G M th bk d c' m' := by
  obtain ⟨h1, h2, h3, h4, h5⟩ := h
  refine ⟨fun i hi => ?_, h2.cong hG (fun i hi => hc i (by omega)), ?_, ?_, fun r hr w hw => ?_⟩
  · rw [hc i (by omega), hm i (by omega)]
    exact h1 i hi
  · rw [hc 68 (by omega)]
    exact h3
  · rw [hm 69 (by omega)]
    exact h4
  · rw [hm _ (by omega)]
    exact h5 r hr w hw
theorem spB_c {i n N : Nat} (h : i + n ≤ N ∧ N < 2 ^ 31) : spB (nI i) (nI n) N = true := by
  unfold spB
  rw [decide_eq_true_eq, nI_clamp (by omega), nI_clamp (by omega)]
  exact ⟨nI_pos (by omega), nI_pos (by omega), h.1⟩
theorem mn40 {s : Nat} (h : s ≤ 40) : mn (nI 40) (nI (s + 1)) = nI (min 40 (s + 1)) := by
  show (if nI (s + 1) < nI 40 then nI (s + 1) else nI 40) = _
  by_cases e : s + 1 < 40
  · rw [if_pos (nI_lt e (by omega)), Nat.min_eq_right (by omega)]
  · rw [if_neg (nI_nlt (by omega) (by omega)), Nat.min_eq_left (by omega)]
theorem keepX_c {c rows : Nat → Int32} {s nx : Nat} (hs : s ≤ 40) (hn : nx < 40) : f_X0_keep c (nI s) (nI nx) rows = some (nI (min 40 (s + 1)), nI ((nx + 1) % 40), va_cpy c rows 0 (nx * 69) 69) := by
  have e1 : rem (nI (nx + 1)) (nI 40) = nI ((nx + 1) % 40) := pk_rem (by omega) (by omega) (by omega)
  simp (disch := omega) only [f_X0_keep, b_X0_keep_0, spB_c, mn40 hs, e1, neg_nI, lit_nI, nI_add, pk_mul, pk_sub, nI_clamp, inB_nI, gd_true, bnd_def, nI_leI, nI_ltI, nI_eq, nI_mI, mI_nI, nle_T, nle_F, nlt_T, nlt_F, neq_T, neq_F, ↓reduceIte, Nat.add_zero, Nat.zero_add, Nat.mul_zero, Nat.reduceAdd, Nat.reduceMul, Nat.reduceSub, ob1_e, ob2_e, ob3_e, ob4_e, ob6_e]
theorem keepY_54 {m : Nat → Int32} {s : Nat} (hs : s < 40) : ∀ (j k n : Nat) (kept : Nat → Int32), k + j = 250 → j < n → ∃ kept', f_X12_keep_54 m n (nI s) kept (nI k) = some (nI (s + 1), kept') ∧ (∀ i, k ≤ i → i < 250 → kept' (250 * s + i) = m i) ∧ (∀ i, i < 250 * s + k → kept' i = kept i) := by
  intro j
  induction j with
  | zero =>
    intro k n kept hk h1
    obtain ⟨n, rfl⟩ : ∃ q, n = q + 1 := ⟨n - 1, by omega⟩
    refine ⟨kept, ?_, fun i h2 h3 => by omega, fun _ _ => rfl⟩
    simp (disch := omega) only [f_X12_keep_54, b_X12_keep_54, neg_nI, lit_nI, nI_add, pk_mul, pk_sub, nI_clamp, inB_nI, gd_true, bnd_def, nI_leI, nI_ltI, nI_eq, nI_mI, mI_nI, nle_T, nle_F, nlt_T, nlt_F, neq_T, neq_F, ↓reduceIte, Nat.add_zero, Nat.zero_add, Nat.mul_zero, Nat.reduceAdd, Nat.reduceMul, Nat.reduceSub, ob1_e, ob2_e, ob3_e, ob4_e, ob6_e]
  | succ j ih =>
    intro k n kept hk h1
    obtain ⟨n, rfl⟩ : ∃ q, n = q + 1 := ⟨n - 1, by omega⟩
    obtain ⟨kept', r1, r2, r3⟩ := ih (k + 1) n (upd kept (250 * s + k) (m k)) (by omega) (by omega)
    refine ⟨kept', ?_, fun i h2 h3 => ?_, fun i hi => ?_⟩
    · rw [← r1]
      simp (disch := omega) only [f_X12_keep_54, b_X12_keep_54, neg_nI, lit_nI, nI_add, pk_mul, pk_sub, nI_clamp, inB_nI, gd_true, bnd_def, nI_leI, nI_ltI, nI_eq, nI_mI, mI_nI, nle_T, nle_F, nlt_T, nlt_F, neq_T, neq_F, ↓reduceIte, Nat.add_zero, Nat.zero_add, Nat.mul_zero, Nat.reduceAdd, Nat.reduceMul, Nat.reduceSub, ob1_e, ob2_e, ob3_e, ob4_e, ob6_e]
    · by_cases e : i = k
      · rw [e, r3 _ (by omega), upd_y rfl]
      · exact r2 i (by omega) h3
    · rw [r3 i (by omega), upd_n (by omega)]
theorem keepY_13 {m : Nat → Int32} : ∀ (j k n : Nat) (kept : Nat → Int32), k + j = 10000 → 250 ≤ k → j < n → ∃ kept', f_X12_keep_13 m n (nI 40) kept (nI k) = some (nI 40, kept') ∧ (∀ i, i < 250 → kept' (250 * 39 + i) = m i) ∧ (∀ i, k ≤ i → i < 10000 → kept' (i - 250) = kept i) ∧ (∀ i, i + 250 < k → kept' i = kept i) := by
  intro j
  induction j with
  | zero =>
    intro k n kept hk hk2 h1
    obtain ⟨n, rfl⟩ : ∃ q, n = q + 1 := ⟨n - 1, by omega⟩
    obtain ⟨kept', r1, r2, r3⟩ := keepY_54 (m := m) (s := 39) (by omega) 250 0 fu kept (by omega) (by have := fu_le; omega)
    have r1' : f_X12_keep_54 m fu (nI 39) kept (nI 0) = some (nI 40, kept') := r1
    refine ⟨kept', ?_, fun i hi => r2 i (by omega) hi, fun i h2 h3 => by omega, fun i hi => r3 i (by omega)⟩
    rw [← r1']
    simp (disch := omega) only [f_X12_keep_13, b_X12_keep_13, b_X12_keep_52, neg_nI, lit_nI, nI_add, pk_mul, pk_sub, nI_clamp, inB_nI, gd_true, bnd_def, nI_leI, nI_ltI, nI_eq, nI_mI, mI_nI, nle_T, nle_F, nlt_T, nlt_F, neq_T, neq_F, ↓reduceIte, Nat.add_zero, Nat.zero_add, Nat.mul_zero, Nat.reduceAdd, Nat.reduceMul, Nat.reduceSub, ob1_e, ob2_e, ob3_e, ob4_e, ob6_e]
  | succ j ih =>
    intro k n kept hk hk2 h1
    obtain ⟨n, rfl⟩ : ∃ q, n = q + 1 := ⟨n - 1, by omega⟩
    obtain ⟨kept', r1, r2, r3, r4⟩ := ih (k + 1) n (upd kept (k - 250) (kept k)) (by omega) (by omega) (by omega)
    refine ⟨kept', ?_, r2, fun i h2 h3 => ?_, fun i hi => ?_⟩
    · rw [← r1]
      simp (disch := omega) only [f_X12_keep_13, b_X12_keep_13, neg_nI, lit_nI, nI_add, pk_mul, pk_sub, nI_clamp, inB_nI, gd_true, bnd_def, nI_leI, nI_ltI, nI_eq, nI_mI, mI_nI, nle_T, nle_F, nlt_T, nlt_F, neq_T, neq_F, ↓reduceIte, Nat.add_zero, Nat.zero_add, Nat.mul_zero, Nat.reduceAdd, Nat.reduceMul, Nat.reduceSub, ob1_e, ob2_e, ob3_e, ob4_e, ob6_e]
    · by_cases e : i = k
      · rw [e, r4 _ (by omega), upd_y rfl]
      · rw [r3 i (by omega) h3, upd_n (by omega)]
    · rw [r4 i (by omega), upd_n (by omega)]
/-- an act is kept by both -/
theorem keep_l {G M : Nat} {th bk : Nat → Int32} {s nx d : Nat} {rows kept c m : Nat → Int32} {dd : Nat → Nat} (hG : G ≤ 6) (hM : M ≤ 5) (hA : RA G M th bk s nx rows kept dd) (hd : dd s = d) (hC : RC G M th bk d c m) : ∃ s' nx' rows' kept' dd', f_X0_keep c (nI s) (nI nx) rows = some (nI s', nI nx', rows') ∧ f_X12_keep m (nI s) kept = some (nI s', kept') ∧ RA G M th bk s' nx' rows' kept' dd' ∧ dd' s' = d ∧ dd' (s' - 1) = d ∧ 0 < s' := by
  obtain ⟨hs, hn, hr⟩ := hA
  have inn : ∀ i, i < 69 → va_cpy c rows 0 (nx * 69) 69 (69 * nx + i) = c i := by
    intro i hi
    rw [pk_cpy_in (by omega) (by omega)]
    congr 1
    omega
  have out : ∀ q i, i < 69 → q < 40 → q ≠ nx → va_cpy c rows 0 (nx * 69) 69 (69 * q + i) = rows (69 * q + i) := by
    intro q i hi hq hne
    exact pk_cpy_out (by omega)
  by_cases e40 : s = 40
  · subst e40
    obtain ⟨kept', r1, r2, r3, r4⟩ := keepY_13 (m := m) 9750 250 fu kept (by omega) (by omega) (by have := fu_le; omega)
    refine ⟨40, (nx + 1) % 40, _, kept', fun j => if j = 40 then d else dd (j + 1), keepX_c hs hn, ?_, ⟨by omega, by omega, fun j hj => ?_⟩, by rfl, ?_, by omega⟩
    · rw [← r1]
      simp (disch := omega) only [f_X12_keep, b_X12_keep_0, neg_nI, lit_nI, nI_add, pk_mul, pk_sub, nI_clamp, inB_nI, gd_true, bnd_def, nI_leI, nI_ltI, nI_eq, nI_mI, mI_nI, nle_T, nle_F, nlt_T, nlt_F, neq_T, neq_F, ↓reduceIte, Nat.add_zero, Nat.zero_add, Nat.mul_zero, Nat.reduceAdd, Nat.reduceMul, Nat.reduceSub, ob1_e, ob2_e, ob3_e, ob4_e, ob6_e]
    · by_cases e39 : j = 39
      · subst e39
        refine ⟨?_, ?_⟩
        · show RC G M th bk (dd 40) _ _
          rw [hd]
          refine hC.cong hG hM (fun i hi => ?_) (fun i hi => ?_)
          · show va_cpy c rows 0 (nx * 69) 69 (69 * (((nx + 1) % 40 + 40 - 40 + 39) % 40) + i) = c i
            rw [show ((nx + 1) % 40 + 40 - 40 + 39) % 40 = nx by omega]
            exact inn i hi
          · exact r2 i hi
        · show dd 40 ≤ d ∧ d ≤ dd 40 + 1
          omega
      · obtain ⟨q1, q2⟩ := hr (j + 1) (by omega)
        refine ⟨?_, ?_⟩
        · show RC G M th bk (if j = 40 then d else dd (j + 1)) _ _
          rw [if_neg (by omega)]
          refine q1.cong hG hM (fun i hi => ?_) (fun i hi => ?_)
          · show va_cpy c rows 0 (nx * 69) 69 (69 * (((nx + 1) % 40 + 40 - 40 + j) % 40) + i) = rows (69 * ((nx + 40 - 40 + (j + 1)) % 40) + i)
            rw [show ((nx + 1) % 40 + 40 - 40 + j) % 40 = (nx + 40 - 40 + (j + 1)) % 40 by omega]
            exact out _ i hi (by omega) (by omega)
          · show kept' (250 * j + i) = kept (250 * (j + 1) + i)
            have q9 := r3 (250 * (j + 1) + i) (by omega) (by omega)
            rw [show 250 * (j + 1) + i - 250 = 250 * j + i by omega] at q9
            exact q9
        · show (if j = 40 then d else dd (j + 1)) ≤ (if j + 1 = 40 then d else dd (j + 1 + 1)) ∧ (if j + 1 = 40 then d else dd (j + 1 + 1)) ≤ (if j = 40 then d else dd (j + 1)) + 1
          rw [if_neg (by omega), if_neg (by omega)]
          exact q2
    · show (if 39 = 40 then d else dd (39 + 1)) = d
      rw [if_neg (by omega)]
      exact hd
  · obtain ⟨kept', r1, r2, r3⟩ := keepY_54 (m := m) (s := s) (by omega) 250 0 fu kept (by omega) (by have := fu_le; omega)
    refine ⟨s + 1, (nx + 1) % 40, va_cpy c rows 0 (nx * 69) 69, kept', fun j => if j = s + 1 then d else dd j, ?_, ?_, ⟨by omega, by omega, fun j hj => ?_⟩, ?_, ?_, by omega⟩
    · rw [keepX_c hs hn, Nat.min_eq_right (by omega)]
    · rw [← r1]
      simp (disch := omega) only [f_X12_keep, b_X12_keep_0, b_X12_keep_52, neg_nI, lit_nI, nI_add, pk_mul, pk_sub, nI_clamp, inB_nI, gd_true, bnd_def, nI_leI, nI_ltI, nI_eq, nI_mI, mI_nI, nle_T, nle_F, nlt_T, nlt_F, neq_T, neq_F, ↓reduceIte, Nat.add_zero, Nat.zero_add, Nat.mul_zero, Nat.reduceAdd, Nat.reduceMul, Nat.reduceSub, ob1_e, ob2_e, ob3_e, ob4_e, ob6_e]
    · by_cases ej : j = s
      · subst ej
        refine ⟨?_, ?_⟩
        · show RC G M th bk (if j = j + 1 then d else dd j) _ _
          rw [if_neg (by omega), hd]
          refine hC.cong hG hM (fun i hi => ?_) (fun i hi => ?_)
          · show va_cpy c rows 0 (nx * 69) 69 (69 * (((nx + 1) % 40 + 40 - (j + 1) + j) % 40) + i) = c i
            rw [show ((nx + 1) % 40 + 40 - (j + 1) + j) % 40 = nx by omega]
            exact inn i hi
          · exact r2 i (by omega) hi
        · show (if j = j + 1 then d else dd j) ≤ (if j + 1 = j + 1 then d else dd (j + 1)) ∧ (if j + 1 = j + 1 then d else dd (j + 1)) ≤ (if j = j + 1 then d else dd j) + 1
          rw [if_neg (by omega), if_pos rfl]
          omega
      · obtain ⟨q1, q2⟩ := hr j (by omega)
        refine ⟨?_, ?_⟩
        · show RC G M th bk (if j = s + 1 then d else dd j) _ _
          rw [if_neg (by omega)]
          refine q1.cong hG hM (fun i hi => ?_) (fun i hi => ?_)
          · show va_cpy c rows 0 (nx * 69) 69 (69 * (((nx + 1) % 40 + 40 - (s + 1) + j) % 40) + i) = rows (69 * ((nx + 40 - s + j) % 40) + i)
            rw [show ((nx + 1) % 40 + 40 - (s + 1) + j) % 40 = (nx + 40 - s + j) % 40 by omega]
            exact out _ i hi (by omega) (by omega)
          · exact r3 _ (by omega)
        · show (if j = s + 1 then d else dd j) ≤ (if j + 1 = s + 1 then d else dd (j + 1)) ∧ (if j + 1 = s + 1 then d else dd (j + 1)) ≤ (if j = s + 1 then d else dd j) + 1
          rw [if_neg (by omega), if_neg (by omega)]
          exact q2
    · show (if s + 1 = s + 1 then d else dd (s + 1)) = d
      rw [if_pos rfl]
    · show (if s + 1 - 1 = s + 1 then d else dd (s + 1 - 1)) = d
      rw [if_neg (by omega)]
      exact hd
