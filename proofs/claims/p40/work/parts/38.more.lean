section
/-! undo, image, back, log and the plain reads -/
theorem undo_l {kept : Nat → Int32} {s : Nat} (hs : s < 40) : ∀ (j k n : Nat) (m : Nat → Int32), k + j = 250 → j < n → ∃ m', f_X12_undo_21 kept n (nI s) m (nI k) = some (nI s, nI s, m') ∧ (∀ i, k ≤ i → i < 250 → m' i = kept (250 * s + i)) ∧ (∀ i, i < k → m' i = m i) := by
  intro j
  induction j with
  | zero =>
    intro k n m hk h1
    obtain ⟨n, rfl⟩ : ∃ q, n = q + 1 := ⟨n - 1, by omega⟩
    refine ⟨m, ?_, fun i h2 h3 => by omega, fun _ _ => rfl⟩
    simp (disch := omega) only [f_X12_undo_21, b_X12_undo_21, neg_nI, lit_nI, nI_add, pk_mul, pk_sub, nI_clamp, inB_nI, gd_true, bnd_def, nI_leI, nI_ltI, nI_eq, nI_mI, mI_nI, nle_T, nle_F, nlt_T, nlt_F, neq_T, neq_F, ↓reduceIte, Nat.add_zero, Nat.zero_add, Nat.mul_zero, Nat.reduceAdd, Nat.reduceMul, Nat.reduceSub, ob1_e, ob2_e, ob3_e, ob4_e, ob6_e]
  | succ j ih =>
    intro k n m hk h1
    obtain ⟨n, rfl⟩ : ∃ q, n = q + 1 := ⟨n - 1, by omega⟩
    obtain ⟨m', r1, r2, r3⟩ := ih (k + 1) n (upd m k (kept (250 * s + k))) (by omega) (by omega)
    refine ⟨m', ?_, fun i h2 h3 => ?_, fun i hi => ?_⟩
    · rw [← r1]
      simp (disch := omega) only [f_X12_undo_21, b_X12_undo_21, neg_nI, lit_nI, nI_add, pk_mul, pk_sub, nI_clamp, inB_nI, gd_true, bnd_def, nI_leI, nI_ltI, nI_eq, nI_mI, mI_nI, nle_T, nle_F, nlt_T, nlt_F, neq_T, neq_F, ↓reduceIte, Nat.add_zero, Nat.zero_add, Nat.mul_zero, Nat.reduceAdd, Nat.reduceMul, Nat.reduceSub, ob1_e, ob2_e, ob3_e, ob4_e, ob6_e]
    · by_cases e : i = k
      · rw [e, r3 _ (by omega), upd_y rfl]
      · exact r2 i (by omega) h3
    · rw [r3 i (by omega), upd_n (by omega)]
theorem image_l {G : Nat} {m : Nat → Int32} {hi0 : Int32} : ∀ (j k n : Nat) (im : Nat → Int32), k + j = 250 → j < n → ∃ im', f_X12_image_11 (nI G) m n hi0 im (nI k) = some (m 68, nI 1, im') ∧ (∀ i, k ≤ i → i < 250 → im' i = m i) ∧ (∀ i, i < k → im' i = im i) := by
  intro j
  induction j with
  | zero =>
    intro k n im hk h1
    obtain ⟨n, rfl⟩ : ∃ q, n = q + 1 := ⟨n - 1, by omega⟩
    refine ⟨im, ?_, fun i h2 h3 => by omega, fun _ _ => rfl⟩
    simp (disch := omega) only [f_X12_image_11, b_X12_image_11, neg_nI, lit_nI, nI_add, pk_mul, pk_sub, nI_clamp, inB_nI, gd_true, bnd_def, nI_leI, nI_ltI, nI_eq, nI_mI, mI_nI, nle_T, nle_F, nlt_T, nlt_F, neq_T, neq_F, ↓reduceIte, Nat.add_zero, Nat.zero_add, Nat.mul_zero, Nat.reduceAdd, Nat.reduceMul, Nat.reduceSub, ob1_e, ob2_e, ob3_e, ob4_e, ob6_e]
  | succ j ih =>
    intro k n im hk h1
    obtain ⟨n, rfl⟩ : ∃ q, n = q + 1 := ⟨n - 1, by omega⟩
    obtain ⟨m', r1, r2, r3⟩ := ih (k + 1) n (upd im k (m k)) (by omega) (by omega)
    refine ⟨m', ?_, fun i h2 h3 => ?_, fun i hi => ?_⟩
    · rw [← r1]
      simp (disch := omega) only [f_X12_image_11, b_X12_image_11, neg_nI, lit_nI, nI_add, pk_mul, pk_sub, nI_clamp, inB_nI, gd_true, bnd_def, nI_leI, nI_ltI, nI_eq, nI_mI, mI_nI, nle_T, nle_F, nlt_T, nlt_F, neq_T, neq_F, ↓reduceIte, Nat.add_zero, Nat.zero_add, Nat.mul_zero, Nat.reduceAdd, Nat.reduceMul, Nat.reduceSub, ob1_e, ob2_e, ob3_e, ob4_e, ob6_e]
    · by_cases e : i = k
      · rw [e, r3 _ (by omega), upd_y rfl]
      · exact r2 i (by omega) h3
    · rw [r3 i (by omega), upd_n (by omega)]
theorem back_l {im : Nat → Int32} {hi0 ac : Int32} : ∀ (j k n : Nat) (m : Nat → Int32), k + j = 250 → j < n → ∃ m', f_X12_back_11 hi0 im n ac m (nI k) = some (m' 68, nI 0, m') ∧ (∀ i, k ≤ i → i < 250 → m' i = im i) ∧ (∀ i, i < k → m' i = m i) := by
  intro j
  induction j with
  | zero =>
    intro k n m hk h1
    obtain ⟨n, rfl⟩ : ∃ q, n = q + 1 := ⟨n - 1, by omega⟩
    refine ⟨m, ?_, fun i h2 h3 => by omega, fun _ _ => rfl⟩
    simp (disch := omega) only [f_X12_back_11, b_X12_back_11, neg_nI, lit_nI, nI_add, pk_mul, pk_sub, nI_clamp, inB_nI, gd_true, bnd_def, nI_leI, nI_ltI, nI_eq, nI_mI, mI_nI, nle_T, nle_F, nlt_T, nlt_F, neq_T, neq_F, ↓reduceIte, Nat.add_zero, Nat.zero_add, Nat.mul_zero, Nat.reduceAdd, Nat.reduceMul, Nat.reduceSub, ob1_e, ob2_e, ob3_e, ob4_e, ob6_e]
  | succ j ih =>
    intro k n m hk h1
    obtain ⟨n, rfl⟩ : ∃ q, n = q + 1 := ⟨n - 1, by omega⟩
    obtain ⟨m', r1, r2, r3⟩ := ih (k + 1) n (upd m k (im k)) (by omega) (by omega)
    refine ⟨m', ?_, fun i h2 h3 => ?_, fun i hi => ?_⟩
    · rw [← r1]
      simp (disch := omega) only [f_X12_back_11, b_X12_back_11, neg_nI, lit_nI, nI_add, pk_mul, pk_sub, nI_clamp, inB_nI, gd_true, bnd_def, nI_leI, nI_ltI, nI_eq, nI_mI, mI_nI, nle_T, nle_F, nlt_T, nlt_F, neq_T, neq_F, ↓reduceIte, Nat.add_zero, Nat.zero_add, Nat.mul_zero, Nat.reduceAdd, Nat.reduceMul, Nat.reduceSub, ob1_e, ob2_e, ob3_e, ob4_e, ob6_e]
    · by_cases e : i = k
      · rw [e, r3 _ (by omega), upd_y rfl]
      · exact r2 i (by omega) h3
    · rw [r3 i (by omega), upd_n (by omega)]
def RI (G M : Nat) (th : Nat → Int32) (xi yi : Int32) (imS imB im : Nat → Int32) : Prop := (xi = nI 0 ∧ yi = nI 0) ∨ (xi = nI 1 ∧ yi = nI 1 ∧ ∃ d, RC G M th imB d imS im)
theorem RC.book {G M d : Nat} {th bk bk' c m : Nat → Int32} (h : RC G M th bk d c m) (hb : ∀ i, i < 384 → bk' i = bk i) : RC G M th bk' d c m := by
  obtain ⟨h1, h2, h3, h4, h5⟩ := h
  refine ⟨h1, h2, h3, h4, fun r hr w hw => ?_⟩
  rw [hb _ (by omega)]
  exact h5 r hr w hw
theorem copyS_c {c c' : Nat → Int32} : f_X9_copyFrom c c' = some (va_cpy c c' 0 0 69) := by
  simp (disch := omega) only [f_X9_copyFrom, b_X9_copyFrom_0, spB_c, neg_nI, lit_nI, nI_add, pk_mul, pk_sub, nI_clamp, inB_nI, gd_true, bnd_def, nI_leI, nI_ltI, nI_eq, nI_mI, mI_nI, nle_T, nle_F, nlt_T, nlt_F, neq_T, neq_F, ↓reduceIte, Nat.add_zero, Nat.zero_add, Nat.mul_zero, Nat.reduceAdd, Nat.reduceMul, Nat.reduceSub, ob1_e, ob2_e, ob3_e, ob4_e, ob6_e]
theorem copyB_c {c c' : Nat → Int32} : f_X3_copyFrom c c' = some (va_cpy c c' 0 0 384) := by
  simp (disch := omega) only [f_X3_copyFrom, b_X3_copyFrom_0, spB_c, neg_nI, lit_nI, nI_add, pk_mul, pk_sub, nI_clamp, inB_nI, gd_true, bnd_def, nI_leI, nI_ltI, nI_eq, nI_mI, mI_nI, nle_T, nle_F, nlt_T, nlt_F, neq_T, neq_F, ↓reduceIte, Nat.add_zero, Nat.zero_add, Nat.mul_zero, Nat.reduceAdd, Nat.reduceMul, Nat.reduceSub, ob1_e, ob2_e, ob3_e, ob4_e, ob6_e]
theorem cpy0 {f g : Nat → Int32} {n i : Nat} (h : i < n) : va_cpy f g 0 0 n i = f i := by
  rw [pk_cpy_in (by omega) (by omega)]
  congr 1
  omega
theorem lengthOn_c {d : Nat} (h : d ≤ 999) : f_X3_lengthOn (nI d) = some (nI (min 60 d)) := by
  show some (if nI d < nI 60 then nI d else nI 60) = _
  by_cases e : d < 60
  · rw [if_pos (nI_lt e (by omega)), Nat.min_eq_right (by omega)]
  · rw [if_neg (nI_nlt (by omega) (by omega)), Nat.min_eq_left (by omega)]
section DG
variable {G M s nx : Nat} {th bk rows kept c m rf mr : Nat → Int32}
theorem s_undo (hG : G ≤ 6) (hM : M ≤ 5) (hD : RD G M th bk s nx rows kept c m rf mr) : ∃ r c' s' nx' m', f_X11_undo rows c (nI s) (nI nx) = some (r, c', nI s', nI nx') ∧ f_X12_undo kept (nI s) m = some (r, nI s', m') ∧ RD G M th bk s' nx' rows kept c' m' rf mr := by
  have hD0 := hD
  obtain ⟨d, dd, hC, hA, hd, hF⟩ := hD
  obtain ⟨hs, hn, hr⟩ := hA
  by_cases s0 : s = 0
  · refine ⟨mI 1, c, s, nx, m, ?_, ?_, hD0⟩
    · simp (disch := omega) only [f_X11_undo, b_X11_undo_0, neg_nI, lit_nI, nI_add, pk_mul, pk_sub, nI_clamp, inB_nI, gd_true, bnd_def, nI_leI, nI_ltI, nI_eq, nI_mI, mI_nI, nle_T, nle_F, nlt_T, nlt_F, neq_T, neq_F, ↓reduceIte, Nat.add_zero, Nat.zero_add, Nat.mul_zero, Nat.reduceAdd, Nat.reduceMul, Nat.reduceSub, ob1_e, ob2_e, ob3_e, ob4_e, ob6_e]
    · simp (disch := omega) only [f_X12_undo, b_X12_undo_21, b_X12_undo_0, neg_nI, lit_nI, nI_add, pk_mul, pk_sub, nI_clamp, inB_nI, gd_true, bnd_def, nI_leI, nI_ltI, nI_eq, nI_mI, mI_nI, nle_T, nle_F, nlt_T, nlt_F, neq_T, neq_F, ↓reduceIte, Nat.add_zero, Nat.zero_add, Nat.mul_zero, Nat.reduceAdd, Nat.reduceMul, Nat.reduceSub, ob1_e, ob2_e, ob3_e, ob4_e, ob6_e]
  · obtain ⟨m', r1, r2, r3⟩ := undo_l (kept := kept) (s := s - 1) (by omega) 250 0 fu m (by omega) (by have := fu_le; omega)
    have e1 : rem (nI (nx + 40 - 1)) (nI 40) = nI ((nx + 40 - 1) % 40) := pk_rem (by omega) (by omega) (by omega)
    refine ⟨nI (s - 1), va_cpy rows c ((nx + 40 - 1) % 40 * 69) 0 69, s - 1, (nx + 40 - 1) % 40, m', ?_, ?_, dd (s - 1), dd, ?_, ⟨by omega, by omega, fun j hj => ?_⟩, rfl, hF⟩
    · simp (disch := omega) only [f_X11_undo, b_X11_undo_0, f_X0_takeBack, b_X0_takeBack_0, e1, spB_c, neg_nI, lit_nI, nI_add, pk_mul, pk_sub, nI_clamp, inB_nI, gd_true, bnd_def, nI_leI, nI_ltI, nI_eq, nI_mI, mI_nI, nle_T, nle_F, nlt_T, nlt_F, neq_T, neq_F, ↓reduceIte, Nat.add_zero, Nat.zero_add, Nat.mul_zero, Nat.reduceAdd, Nat.reduceMul, Nat.reduceSub, ob1_e, ob2_e, ob3_e, ob4_e, ob6_e]
    · rw [← r1]
      simp (disch := omega) only [f_X12_undo, b_X12_undo_21, b_X12_undo_0, neg_nI, lit_nI, nI_add, pk_mul, pk_sub, nI_clamp, inB_nI, gd_true, bnd_def, nI_leI, nI_ltI, nI_eq, nI_mI, mI_nI, nle_T, nle_F, nlt_T, nlt_F, neq_T, neq_F, ↓reduceIte, Nat.add_zero, Nat.zero_add, Nat.mul_zero, Nat.reduceAdd, Nat.reduceMul, Nat.reduceSub, ob1_e, ob2_e, ob3_e, ob4_e, ob6_e]
    · refine (hr (s - 1) (by omega)).1.cong hG hM (fun i hi => ?_) (fun i hi => r2 i (by omega) hi)
      rw [pk_cpy_in (by omega) (by omega)]
      show rows _ = rows (69 * ((nx + 40 - s + (s - 1)) % 40) + i)
      congr 1
      rw [show (nx + 40 - s + (s - 1)) % 40 = (nx + 40 - 1) % 40 by omega]
      omega
    · have q := hr j (by omega)
      rw [show ((nx + 40 - 1) % 40 + 40 - (s - 1) + j) % 40 = (nx + 40 - s + j) % 40 by omega]
      exact q
theorem s_image {xi yi : Int32} {imS imB im : Nat → Int32} (hG : G ≤ 6) (hM : M ≤ 5) (hD : RD G M th bk s nx rows kept c m rf mr) (hI : RI G M th xi yi imS imB im) : ∃ r xi' imS' imB' yi' im', f_X11_image (nI G) c bk xi imS imB = some (r, xi', imS', imB') ∧ f_X12_image (nI G) m yi im = some (r, yi', im') ∧ RI G M th xi' yi' imS' imB' im' := by
  obtain ⟨d, dd, hC, hA, hd, hF⟩ := hD
  have e68 : m 68 = c 68 := hC.1 68 (by omega)
  by_cases g0 : G = 0
  · refine ⟨mI 1, xi, imS, imB, yi, im, ?_, ?_, hI⟩
    · simp (disch := omega) only [f_X11_image, b_X11_image_0, noPeace_y g0, neg_nI, lit_nI, nI_add, pk_mul, pk_sub, nI_clamp, inB_nI, gd_true, bnd_def, nI_leI, nI_ltI, nI_eq, nI_mI, mI_nI, nle_T, nle_F, nlt_T, nlt_F, neq_T, neq_F, ↓reduceIte, Nat.add_zero, Nat.zero_add, Nat.mul_zero, Nat.reduceAdd, Nat.reduceMul, Nat.reduceSub, ob1_e, ob2_e, ob3_e, ob4_e, ob6_e]
    · simp (disch := omega) only [f_X12_image, b_X12_image_11, b_X12_image_0, neg_nI, lit_nI, nI_add, pk_mul, pk_sub, nI_clamp, inB_nI, gd_true, bnd_def, nI_leI, nI_ltI, nI_eq, nI_mI, mI_nI, nle_T, nle_F, nlt_T, nlt_F, neq_T, neq_F, ↓reduceIte, Nat.add_zero, Nat.zero_add, Nat.mul_zero, Nat.reduceAdd, Nat.reduceMul, Nat.reduceSub, ob1_e, ob2_e, ob3_e, ob4_e, ob6_e]
  · obtain ⟨im', r1, r2, r3⟩ := image_l (G := G) (m := m) (hi0 := yi) 250 0 fu im (by omega) (by have := fu_le; omega)
    refine ⟨c 68, nI 1, va_cpy c imS 0 0 69, va_cpy bk imB 0 0 384, nI 1, im', ?_, ?_, Or.inr ⟨rfl, rfl, d, (hC.cong hG hM (fun i hi => cpy0 hi) (fun i hi => r2 i (by omega) hi)).book (fun i hi => cpy0 hi)⟩⟩
    · simp (disch := omega) only [f_X11_image, b_X11_image_0, noPeace_n, copyS_c, copyB_c, day_c, neg_nI, lit_nI, nI_add, pk_mul, pk_sub, nI_clamp, inB_nI, gd_true, bnd_def, nI_leI, nI_ltI, nI_eq, nI_mI, mI_nI, nle_T, nle_F, nlt_T, nlt_F, neq_T, neq_F, ↓reduceIte, Nat.add_zero, Nat.zero_add, Nat.mul_zero, Nat.reduceAdd, Nat.reduceMul, Nat.reduceSub, ob1_e, ob2_e, ob3_e, ob4_e, ob6_e]
    · rw [← e68, ← r1]
      simp (disch := omega) only [f_X12_image, b_X12_image_11, b_X12_image_0, neg_nI, lit_nI, nI_add, pk_mul, pk_sub, nI_clamp, inB_nI, gd_true, bnd_def, nI_leI, nI_ltI, nI_eq, nI_mI, mI_nI, nle_T, nle_F, nlt_T, nlt_F, neq_T, neq_F, ↓reduceIte, Nat.add_zero, Nat.zero_add, Nat.mul_zero, Nat.reduceAdd, Nat.reduceMul, Nat.reduceSub, ob1_e, ob2_e, ob3_e, ob4_e, ob6_e]
theorem s_back {xi yi : Int32} {imS imB im : Nat → Int32} (hG : G ≤ 6) (hM : M ≤ 5) (hD : RD G M th bk s nx rows kept c m rf mr) (hI : RI G M th xi yi imS imB im) : ∃ r c' bk' s' m', f_X11_back xi imS imB c bk (nI s) = some (r, c', bk', nI s') ∧ f_X12_back yi im (nI s) m = some (r, nI s', m') ∧ RD G M th bk' s' nx rows kept c' m' rf mr := by
  rcases hI with ⟨rfl, rfl⟩ | ⟨rfl, rfl, d, hC⟩
  · refine ⟨mI 1, c, bk, s, m, ?_, ?_, hD⟩
    · simp (disch := omega) only [f_X11_back, b_X11_back_0, neg_nI, lit_nI, nI_add, pk_mul, pk_sub, nI_clamp, inB_nI, gd_true, bnd_def, nI_leI, nI_ltI, nI_eq, nI_mI, mI_nI, nle_T, nle_F, nlt_T, nlt_F, neq_T, neq_F, ↓reduceIte, Nat.add_zero, Nat.zero_add, Nat.mul_zero, Nat.reduceAdd, Nat.reduceMul, Nat.reduceSub, ob1_e, ob2_e, ob3_e, ob4_e, ob6_e]
    · simp (disch := omega) only [f_X12_back, b_X12_back_11, b_X12_back_0, neg_nI, lit_nI, nI_add, pk_mul, pk_sub, nI_clamp, inB_nI, gd_true, bnd_def, nI_leI, nI_ltI, nI_eq, nI_mI, mI_nI, nle_T, nle_F, nlt_T, nlt_F, neq_T, neq_F, ↓reduceIte, Nat.add_zero, Nat.zero_add, Nat.mul_zero, Nat.reduceAdd, Nat.reduceMul, Nat.reduceSub, ob1_e, ob2_e, ob3_e, ob4_e, ob6_e]
  · obtain ⟨-, dd, -, ⟨hs, hn, -⟩, -, hF⟩ := hD
    obtain ⟨m', r1, r2, r3⟩ := back_l (im := im) (hi0 := nI 1) (ac := nI s) 250 0 fu m (by omega) (by have := fu_le; omega)
    have hC2 := (hC.cong hG hM (fun i hi => cpy0 (g := c) hi) (fun i hi => r2 i (by omega) hi)).book (fun i hi => cpy0 (g := bk) hi)
    have e68 : m' 68 = va_cpy imS c 0 0 69 68 := hC2.1 68 (by omega)
    refine ⟨va_cpy imS c 0 0 69 68, va_cpy imS c 0 0 69, va_cpy imB bk 0 0 384, 0, m', ?_, ?_, d, fun _ => d, hC2, ⟨by omega, hn, fun j hj => by omega⟩, rfl, hF⟩
    · simp (disch := omega) only [f_X11_back, b_X11_back_0, f_X0_forget, b_X0_forget_0, copyS_c, copyB_c, day_c, neg_nI, lit_nI, nI_add, pk_mul, pk_sub, nI_clamp, inB_nI, gd_true, bnd_def, nI_leI, nI_ltI, nI_eq, nI_mI, mI_nI, nle_T, nle_F, nlt_T, nlt_F, neq_T, neq_F, ↓reduceIte, Nat.add_zero, Nat.zero_add, Nat.mul_zero, Nat.reduceAdd, Nat.reduceMul, Nat.reduceSub, ob1_e, ob2_e, ob3_e, ob4_e, ob6_e]
    · rw [← e68, ← r1]
      simp (disch := omega) only [f_X12_back, b_X12_back_11, b_X12_back_0, neg_nI, lit_nI, nI_add, pk_mul, pk_sub, nI_clamp, inB_nI, gd_true, bnd_def, nI_leI, nI_ltI, nI_eq, nI_mI, mI_nI, nle_T, nle_F, nlt_T, nlt_F, neq_T, neq_F, ↓reduceIte, Nat.add_zero, Nat.zero_add, Nat.mul_zero, Nat.reduceAdd, Nat.reduceMul, Nat.reduceSub, ob1_e, ob2_e, ob3_e, ob4_e, ob6_e]
theorem s_log (hD : RD G M th bk s nx rows kept c m rf mr) (x y : Int32) : ∃ r, f_X11_log c bk x y = some r ∧ f_X12_log m x y = some r := by
  obtain ⟨d, dd, ⟨hN, hI, ⟨e68, hd9⟩, h69, hR⟩, -⟩ := hD
  have hL : min 60 d ≤ 60 ∧ min 60 d ≤ d := by omega
  rcases rngN x (min 60 d) (by omega) with ⟨i, hi, rfl⟩ | h0 | ⟨h0, h1, h2⟩
  · rcases rng y 2 (by omega) with ⟨w, hw, rfl⟩ | k0 | ⟨k0, k1, k2⟩
    · have e := hR (min 60 d - 1 - i) (by omega) w (by omega)
      rw [show 70 + (3 * (min 60 d - 1 - i) + w) = 70 + 3 * (min 60 d - 1 - i) + w by omega, show d - min 60 d + (min 60 d - 1 - i) = d - 1 - i by omega] at e
      refine ⟨bk ((d - 1 - i) % 128 * 3 + w), ?_, ?_⟩
      · simp (disch := omega) only [f_X11_log, b_X11_log_0, f_X3_read, b_X3_read_0, day_c, e68, lengthOn_c, and127, neg_nI, lit_nI, nI_add, pk_mul, pk_sub, nI_clamp, inB_nI, gd_true, bnd_def, nI_leI, nI_ltI, nI_eq, nI_mI, mI_nI, nle_T, nle_F, nlt_T, nlt_F, neq_T, neq_F, ↓reduceIte, Nat.add_zero, Nat.zero_add, Nat.mul_zero, Nat.reduceAdd, Nat.reduceMul, Nat.reduceSub, ob1_e, ob2_e, ob3_e, ob4_e, ob6_e]
      · simp (disch := omega) only [f_X12_log, b_X12_log_0, h69, in_c, e, neg_nI, lit_nI, nI_add, pk_mul, pk_sub, nI_clamp, inB_nI, gd_true, bnd_def, nI_leI, nI_ltI, nI_eq, nI_mI, mI_nI, nle_T, nle_F, nlt_T, nlt_F, neq_T, neq_F, ↓reduceIte, Nat.add_zero, Nat.zero_add, Nat.mul_zero, Nat.reduceAdd, Nat.reduceMul, Nat.reduceSub, ob1_e, ob2_e, ob3_e, ob4_e, ob6_e]
    · refine ⟨mI 1, ?_, ?_⟩
      · simp (disch := omega) only [f_X11_log, b_X11_log_0, day_c, e68, lengthOn_c, k0, neg_nI, lit_nI, nI_add, pk_mul, pk_sub, nI_clamp, inB_nI, gd_true, bnd_def, nI_leI, nI_ltI, nI_eq, nI_mI, mI_nI, nle_T, nle_F, nlt_T, nlt_F, neq_T, neq_F, ↓reduceIte, Nat.add_zero, Nat.zero_add, Nat.mul_zero, Nat.reduceAdd, Nat.reduceMul, Nat.reduceSub, ob1_e, ob2_e, ob3_e, ob4_e, ob6_e]
      · simp (disch := omega) only [f_X12_log, b_X12_log_0, h69, in_c, in_lo (hi := nI 2) k0, neg_nI, lit_nI, nI_add, pk_mul, pk_sub, nI_clamp, inB_nI, gd_true, bnd_def, nI_leI, nI_ltI, nI_eq, nI_mI, mI_nI, nle_T, nle_F, nlt_T, nlt_F, neq_T, neq_F, ↓reduceIte, Nat.add_zero, Nat.zero_add, Nat.mul_zero, Nat.reduceAdd, Nat.reduceMul, Nat.reduceSub, ob1_e, ob2_e, ob3_e, ob4_e, ob6_e]
    · refine ⟨mI 1, ?_, ?_⟩
      · simp (disch := omega) only [f_X11_log, b_X11_log_0, day_c, e68, lengthOn_c, k0, k2, neg_nI, lit_nI, nI_add, pk_mul, pk_sub, nI_clamp, inB_nI, gd_true, bnd_def, nI_leI, nI_ltI, nI_eq, nI_mI, mI_nI, nle_T, nle_F, nlt_T, nlt_F, neq_T, neq_F, ↓reduceIte, Nat.add_zero, Nat.zero_add, Nat.mul_zero, Nat.reduceAdd, Nat.reduceMul, Nat.reduceSub, ob1_e, ob2_e, ob3_e, ob4_e, ob6_e]
      · simp (disch := omega) only [f_X12_log, b_X12_log_0, h69, in_c, in_hi (lo := nI 0) k1, neg_nI, lit_nI, nI_add, pk_mul, pk_sub, nI_clamp, inB_nI, gd_true, bnd_def, nI_leI, nI_ltI, nI_eq, nI_mI, mI_nI, nle_T, nle_F, nlt_T, nlt_F, neq_T, neq_F, ↓reduceIte, Nat.add_zero, Nat.zero_add, Nat.mul_zero, Nat.reduceAdd, Nat.reduceMul, Nat.reduceSub, ob1_e, ob2_e, ob3_e, ob4_e, ob6_e]
  · refine ⟨mI 1, ?_, ?_⟩
    · simp (disch := omega) only [f_X11_log, b_X11_log_0, h0, neg_nI, lit_nI, nI_add, pk_mul, pk_sub, nI_clamp, inB_nI, gd_true, bnd_def, nI_leI, nI_ltI, nI_eq, nI_mI, mI_nI, nle_T, nle_F, nlt_T, nlt_F, neq_T, neq_F, ↓reduceIte, Nat.add_zero, Nat.zero_add, Nat.mul_zero, Nat.reduceAdd, Nat.reduceMul, Nat.reduceSub, ob1_e, ob2_e, ob3_e, ob4_e, ob6_e]
    · simp only [f_X12_log, b_X12_log_0, h69, in_lo h0, neg_nI, lit_nI, nI_add, pk_mul, pk_sub, nI_clamp, inB_nI, gd_true, bnd_def, nI_leI, nI_ltI, nI_eq, nI_mI, mI_nI, nle_T, nle_F, nlt_T, nlt_F, neq_T, neq_F, ↓reduceIte, Nat.add_zero, Nat.zero_add, Nat.mul_zero, Nat.reduceAdd, Nat.reduceMul, Nat.reduceSub, ob1_e, ob2_e, ob3_e, ob4_e, ob6_e]
      simp (disch := omega) only [neg_nI, lit_nI, nI_add, pk_mul, pk_sub, nI_clamp, inB_nI, gd_true, bnd_def, nI_leI, nI_ltI, nI_eq, nI_mI, mI_nI, nle_T, nle_F, nlt_T, nlt_F, neq_T, neq_F, ↓reduceIte, Nat.add_zero, Nat.zero_add, Nat.mul_zero, Nat.reduceAdd, Nat.reduceMul, Nat.reduceSub, ob1_e, ob2_e, ob3_e, ob4_e, ob6_e]
  · refine ⟨mI 1, ?_, ?_⟩
    · simp (disch := omega) only [f_X11_log, b_X11_log_0, day_c, e68, lengthOn_c, h0, h1, neg_nI, lit_nI, nI_add, pk_mul, pk_sub, nI_clamp, inB_nI, gd_true, bnd_def, nI_leI, nI_ltI, nI_eq, nI_mI, mI_nI, nle_T, nle_F, nlt_T, nlt_F, neq_T, neq_F, ↓reduceIte, Nat.add_zero, Nat.zero_add, Nat.mul_zero, Nat.reduceAdd, Nat.reduceMul, Nat.reduceSub, ob1_e, ob2_e, ob3_e, ob4_e, ob6_e]
    · have q := in_hi (lo := nI 0) (nI_gm1 x (show min 60 d < 2 ^ 31 - 1 by omega) h1 h0)
      simp (disch := omega) only [f_X12_log, b_X12_log_0, h69, ↓q, neg_nI, lit_nI, nI_add, pk_mul, pk_sub, nI_clamp, inB_nI, gd_true, bnd_def, nI_leI, nI_ltI, nI_eq, nI_mI, mI_nI, nle_T, nle_F, nlt_T, nlt_F, neq_T, neq_F, ↓reduceIte, Nat.add_zero, Nat.zero_add, Nat.mul_zero, Nat.reduceAdd, Nat.reduceMul, Nat.reduceSub, ob1_e, ob2_e, ob3_e, ob4_e, ob6_e]
end DG
end
section
/-! years by draws -/
def dwx (x : Int64) : Int64 := x * (6364136223846793005 : Int64) + (1442695040888963407 : Int64)
def dwv (x : Int64) (j : Nat) : Int32 := (remL (ushrL (dwx x) (33 : Int32)) (nI j).toInt64).toInt32
theorem nzL_c : ∀ j, j < 11 → 0 < j → nzL (nI j).toInt64 = true := by decide +kernel
theorem drawX_c {x : Int64} {j : Nat} (h : 0 < j ∧ j < 11) : f_X11_draw x (nI j) = some (dwv x j, dwx x) := by
  have e1 : ((1 : Int32) ≤ nI j) = True := eq_true (nI_le (a := 1) (b := j) (by omega) (by omega))
  unfold f_X11_draw b_X11_draw_0
  rw [bnd_def]
  simp only [e1, if_true, nzL_c j h.2 h.1, gd_true, bnd_def]
  rfl
theorem drawY_c {x : Int64} {j : Nat} (h : 0 < j ∧ j < 11) : f_X12_draw x (nI j) = some (dwv x j, dwx x) := by
  unfold f_X12_draw b_X12_draw_0
  rw [bnd_def]
  simp only [nzL_c j h.2 h.1, gd_true, bnd_def]
  rfl
section YE
variable {R : R6} {lh : Int32} {ll l0 l1 l2 l3 : Nat → Int32} {mh : Int32} {mc mv mk mt ms mu : Nat → Int32}
variable {G M : Nat} {th ta tn mg mm : Nat → Int32} {sp : Int32}
theorem dmeet_l (hX : RiseX R lh ll l0 l1 l2 l3) (hY : RiseY R mh mc mv mk mt ms mu) (hG : G ≤ 6) (hG0 : 0 < G) (hM : M ≤ 5) (hh : ∀ g, g < G → mg (4 * g) = th g) (ha : ∀ g, g < G → mg (4 * g + 3) = ta g) (hn : ∀ k, k < M → mm (2 * k + 1) = tn k) {c m : Nat → Int32} (hN : RN G M c m) (hI : IV G th c) (x : Int64) (lt st lt2 st2 : Nat → Int32) (n k : Nat) (hk : k < 2) : ∃ x' lt' st' c' lt2' st2' m', f_X11_drawMeeting (nI G) (nI M) th ta tn lh ll l0 l1 l2 l3 x lt st c = some (x', lt', st', c') ∧ f_X12_drawDay_2 (nI G) (nI M) mh sp mc mv mk mt ms mu mg mm (n + 1) x lt2 st2 m (nI k) = f_X12_drawDay_2 (nI G) (nI M) mh sp mc mv mk mt ms mu mg mm n x' lt2' st2' m' (nI (k + 1)) ∧ RN G M c' m' ∧ IV G th c' ∧ (∀ i, 66 ≤ i → c' i = c i) ∧ (∀ i, 66 ≤ i → m' i = m i) := by
  rcases two_or (dwv x G) (dwv (dwx x) G) (th := th) (mg := mg) hG hh with ⟨g, o, hg, ho, eg, eo, ht⟩ | ⟨q1, q2⟩
  · have g1 := hh g hg
    have g2 := hh o ho
    have m1 : m (54 + g) = c (54 + g) := hN (54 + g) (by omega)
    have m2 : m (54 + o) = c (54 + o) := hN (54 + o) (by omega)
    by_cases f1 : c (54 + g) = mI 1
    · by_cases f2 : c (54 + o) = mI 1
      · obtain ⟨lt', st', c', lt2', st2', m', e1, e2, e3, e4, e5, e6⟩ := meet_l hX hY hG hM ha hn hN hI hg ho ht lt st lt2 st2
        refine ⟨dwx (dwx x), lt', st', c', lt2', st2', m', ?_, ?_, e3, e4, fun i hi => e5 i (by omega), e6⟩
        · simp (disch := omega) only [f_X11_drawMeeting, b_X11_drawMeeting_0, drawX_c, eg, eo, unlike_c, ht, hasMet_c, f1, f2, e1, neg_nI, lit_nI, nI_add, pk_mul, pk_sub, nI_clamp, inB_nI, gd_true, bnd_def, nI_leI, nI_ltI, nI_eq, nI_mI, mI_nI, nle_T, nle_F, nlt_T, nlt_F, neq_T, neq_F, ↓reduceIte, Nat.add_zero, Nat.zero_add, Nat.mul_zero, Nat.reduceAdd, Nat.reduceMul, Nat.reduceSub, ob1_e, ob2_e, ob3_e, ob4_e, ob6_e]
        · simp (disch := omega) only [f_X12_drawDay_2, f_X12_drawDay, b_X12_drawDay_56, b_X12_drawDay_2, b_X12_drawDay_0, drawY_c, eg, eo, areTwo_c, g1, g2, ht, isFree_c, m1, m2, f1, f2, e2, neg_nI, lit_nI, nI_add, pk_mul, pk_sub, nI_clamp, inB_nI, gd_true, bnd_def, nI_leI, nI_ltI, nI_eq, nI_mI, mI_nI, nle_T, nle_F, nlt_T, nlt_F, neq_T, neq_F, ↓reduceIte, Nat.add_zero, Nat.zero_add, Nat.mul_zero, Nat.reduceAdd, Nat.reduceMul, Nat.reduceSub, ob1_e, ob2_e, ob3_e, ob4_e, ob6_e]
      · refine ⟨dwx (dwx x), lt, st, c, lt2, st2, m, ?_, ?_, hN, hI, fun _ _ => rfl, fun _ _ => rfl⟩
        · simp (disch := omega) only [f_X11_drawMeeting, b_X11_drawMeeting_0, drawX_c, eg, eo, unlike_c, ht, hasMet_c, f1, f2, neg_nI, lit_nI, nI_add, pk_mul, pk_sub, nI_clamp, inB_nI, gd_true, bnd_def, nI_leI, nI_ltI, nI_eq, nI_mI, mI_nI, nle_T, nle_F, nlt_T, nlt_F, neq_T, neq_F, ↓reduceIte, Nat.add_zero, Nat.zero_add, Nat.mul_zero, Nat.reduceAdd, Nat.reduceMul, Nat.reduceSub, ob1_e, ob2_e, ob3_e, ob4_e, ob6_e]
        · simp (disch := omega) only [f_X12_drawDay_2, f_X12_drawDay, b_X12_drawDay_56, b_X12_drawDay_2, b_X12_drawDay_0, drawY_c, eg, eo, areTwo_c, g1, g2, ht, isFree_c, m1, m2, f1, f2, neg_nI, lit_nI, nI_add, pk_mul, pk_sub, nI_clamp, inB_nI, gd_true, bnd_def, nI_leI, nI_ltI, nI_eq, nI_mI, mI_nI, nle_T, nle_F, nlt_T, nlt_F, neq_T, neq_F, ↓reduceIte, Nat.add_zero, Nat.zero_add, Nat.mul_zero, Nat.reduceAdd, Nat.reduceMul, Nat.reduceSub, ob1_e, ob2_e, ob3_e, ob4_e, ob6_e]
    · refine ⟨dwx (dwx x), lt, st, c, lt2, st2, m, ?_, ?_, hN, hI, fun _ _ => rfl, fun _ _ => rfl⟩
      · simp (disch := omega) only [f_X11_drawMeeting, b_X11_drawMeeting_0, drawX_c, eg, eo, unlike_c, ht, hasMet_c, f1, neg_nI, lit_nI, nI_add, pk_mul, pk_sub, nI_clamp, inB_nI, gd_true, bnd_def, nI_leI, nI_ltI, nI_eq, nI_mI, mI_nI, nle_T, nle_F, nlt_T, nlt_F, neq_T, neq_F, ↓reduceIte, Nat.add_zero, Nat.zero_add, Nat.mul_zero, Nat.reduceAdd, Nat.reduceMul, Nat.reduceSub, ob1_e, ob2_e, ob3_e, ob4_e, ob6_e]
      · simp (disch := omega) only [f_X12_drawDay_2, f_X12_drawDay, b_X12_drawDay_56, b_X12_drawDay_2, b_X12_drawDay_0, drawY_c, eg, eo, areTwo_c, g1, g2, ht, isFree_c, m1, f1, neg_nI, lit_nI, nI_add, pk_mul, pk_sub, nI_clamp, inB_nI, gd_true, bnd_def, nI_leI, nI_ltI, nI_eq, nI_mI, mI_nI, nle_T, nle_F, nlt_T, nlt_F, neq_T, neq_F, ↓reduceIte, Nat.add_zero, Nat.zero_add, Nat.mul_zero, Nat.reduceAdd, Nat.reduceMul, Nat.reduceSub, ob1_e, ob2_e, ob3_e, ob4_e, ob6_e]
  · refine ⟨dwx (dwx x), lt, st, c, lt2, st2, m, ?_, ?_, hN, hI, fun _ _ => rfl, fun _ _ => rfl⟩
    · simp (disch := omega) only [f_X11_drawMeeting, b_X11_drawMeeting_0, drawX_c, q1, neg_nI, lit_nI, nI_add, pk_mul, pk_sub, nI_clamp, inB_nI, gd_true, bnd_def, nI_leI, nI_ltI, nI_eq, nI_mI, mI_nI, nle_T, nle_F, nlt_T, nlt_F, neq_T, neq_F, ↓reduceIte, Nat.add_zero, Nat.zero_add, Nat.mul_zero, Nat.reduceAdd, Nat.reduceMul, Nat.reduceSub, ob1_e, ob2_e, ob3_e, ob4_e, ob6_e]
    · simp (disch := omega) only [f_X12_drawDay_2, f_X12_drawDay, b_X12_drawDay_56, b_X12_drawDay_2, b_X12_drawDay_0, drawY_c, q2, neg_nI, lit_nI, nI_add, pk_mul, pk_sub, nI_clamp, inB_nI, gd_true, bnd_def, nI_leI, nI_ltI, nI_eq, nI_mI, mI_nI, nle_T, nle_F, nlt_T, nlt_F, neq_T, neq_F, ↓reduceIte, Nat.add_zero, Nat.zero_add, Nat.mul_zero, Nat.reduceAdd, Nat.reduceMul, Nat.reduceSub, ob1_e, ob2_e, ob3_e, ob4_e, ob6_e]
theorem years_l {N : Nat} (hX : RiseX R lh ll l0 l1 l2 l3) (hY : RiseY R mh mc mv mk mt ms mu) (hG : G ≤ 6) (hG0 : 0 < G) (hM : M ≤ 5) (hh : ∀ g, g < G → mg (4 * g) = th g) (ha : ∀ g, g < G → mg (4 * g + 3) = ta g) (hn : ∀ k, k < M → mm (2 * k + 1) = tn k) (hN6 : N ≤ 60) : ∀ (j k n n' : Nat) (x : Int64) (lt st lt2 st2 c bk : Nat → Int32) (s nx : Nat) (rows m kept : Nat → Int32) (d : Nat) (dd : Nat → Nat), k + j = N → j < n → j < n' → RC G M th bk d c m → RA G M th bk s nx rows kept dd → dd s = d → d + j ≤ 999 → ∃ x' lt' st' c' bk' s' nx' rows' y' lt2' st2' m' kept' dd', f_X11_years_43 sp (nI G) (nI M) th ta tn lh ll l0 l1 l2 l3 n x lt st c bk (nI s) (nI nx) rows (nI N) (nI k) = some (nI (d + j), x', lt', st', c', bk', nI s', nI nx', rows') ∧ f_X12_years_25 (nI G) (nI M) mh sp mc mv mk mt ms mu mg mm n' (nI s) x lt2 st2 m kept (nI N) (nI k) = some (nI (d + j), nI s', y', lt2', st2', m', kept') ∧ RC G M th bk' (d + j) c' m' ∧ RA G M th bk' s' nx' rows' kept' dd' ∧ dd' s' = d + j := by
  intro j
  induction j with
  | zero =>
    intro k n n' x lt st lt2 st2 c bk s nx rows m kept d dd hk h1 h2 hC hA hd h9
    obtain ⟨n, rfl⟩ : ∃ q, n = q + 1 := ⟨n - 1, by omega⟩
    obtain ⟨n', rfl⟩ : ∃ q, n' = q + 1 := ⟨n' - 1, by omega⟩
    have e1 : c 68 = nI d := hC.2.2.1.1
    have e2 : m 68 = nI d := by rw [hC.1 68 (by omega)]; exact e1
    refine ⟨x, lt, st, c, bk, s, nx, rows, x, lt2, st2, m, kept, dd, ?_, ?_, hC, hA, hd⟩
    · simp (disch := omega) only [f_X11_years_43, b_X11_years_43, day_c, e1, neg_nI, lit_nI, nI_add, pk_mul, pk_sub, nI_clamp, inB_nI, gd_true, bnd_def, nI_leI, nI_ltI, nI_eq, nI_mI, mI_nI, nle_T, nle_F, nlt_T, nlt_F, neq_T, neq_F, ↓reduceIte, Nat.add_zero, Nat.zero_add, Nat.mul_zero, Nat.reduceAdd, Nat.reduceMul, Nat.reduceSub, ob1_e, ob2_e, ob3_e, ob4_e, ob6_e]
    · simp (disch := omega) only [f_X12_years_25, b_X12_years_25, e2, neg_nI, lit_nI, nI_add, pk_mul, pk_sub, nI_clamp, inB_nI, gd_true, bnd_def, nI_leI, nI_ltI, nI_eq, nI_mI, mI_nI, nle_T, nle_F, nlt_T, nlt_F, neq_T, neq_F, ↓reduceIte, Nat.add_zero, Nat.zero_add, Nat.mul_zero, Nat.reduceAdd, Nat.reduceMul, Nat.reduceSub, ob1_e, ob2_e, ob3_e, ob4_e, ob6_e]
  | succ j ih =>
    intro k n n' x lt st lt2 st2 c bk s nx rows m kept d dd hk h1 h2 hC hA hd h9
    obtain ⟨n, rfl⟩ : ∃ q, n = q + 1 := ⟨n - 1, by omega⟩
    obtain ⟨n', rfl⟩ : ∃ q, n' = q + 1 := ⟨n' - 1, by omega⟩
    obtain ⟨fu2, hfu⟩ : ∃ q, fu = q + 1 + 1 + 1 := ⟨fu - 3, by have := fu_le; omega⟩
    obtain ⟨s1, nx1, rows1, kept1, dd1, k1, k2, k3, k4, k5, k6⟩ := keep_l hG hM hA hd hC
    obtain ⟨xa, lta, sta, ca, lt2a, st2a, ma, a1, a2, a3, a4, a5, a6⟩ := dmeet_l (sp := sp) hX hY hG hG0 hM hh ha hn hC.1 hC.2.1 x lt st lt2 st2 (fu2 + 1 + 1) 0 (by omega)
    obtain ⟨xb, ltb, stb, cb, lt2b, st2b, mb, b1, b2, b3, b4, b5, b6⟩ := dmeet_l (sp := sp) hX hY hG hG0 hM hh ha hn a3 a4 xa lta sta lt2a st2a (fu2 + 1) 1 (by omega)
    have hmb : mb 66 = cb 66 := b3 66 (by omega)
    -- behind the draw of spite: the same cells but for pride
    obtain ⟨cc, mcc, g1, g2, g3, g4, g5, g6⟩ : ∃ cc mcc, (if sp ≤ dwv xb 10 then some cb else f_X9_growProud cb) = some cc ∧ f_X12_drawDay_2 (nI G) (nI M) mh sp mc mv mk mt ms mu mg mm (fu2 + 1) xb lt2b st2b mb (nI 2) = some (dwx xb, lt2b, st2b, mcc) ∧ RN G M cc mcc ∧ IV G th cc ∧ cc 68 = c 68 ∧ (∀ i, 69 ≤ i → mcc i = m i) := by
      by_cases hs : sp ≤ dwv xb 10
      · refine ⟨cb, mb, if_pos hs, ?_, b3, b4, by rw [b5 68 (by omega), a5 68 (by omega)], fun i hi => by rw [b6 i (by omega), a6 i (by omega)]⟩
        simp (disch := omega) only [f_X12_drawDay_2, f_X12_drawDay, b_X12_drawDay_56, b_X12_drawDay_2, b_X12_drawDay_0, drawY_c, hs, neg_nI, lit_nI, nI_add, pk_mul, pk_sub, nI_clamp, inB_nI, gd_true, bnd_def, nI_leI, nI_ltI, nI_eq, nI_mI, mI_nI, nle_T, nle_F, nlt_T, nlt_F, neq_T, neq_F, ↓reduceIte, Nat.add_zero, Nat.zero_add, Nat.mul_zero, Nat.reduceAdd, Nat.reduceMul, Nat.reduceSub, ob1_e, ob2_e, ob3_e, ob4_e, ob6_e]
      · refine ⟨upd cb 66 (mn (nI 9) (cb 66 + nI 1)), upd mb 66 (mn (nI 9) (cb 66 + nI 1)), ?_, ?_, b3.put _ _, b4.cong hG fun i hi => by rw [upd_n (by omega)], by rw [upd_n (by omega), b5 68 (by omega), a5 68 (by omega)], fun i hi => by rw [upd_n (by omega), b6 i (by omega), a6 i (by omega)]⟩
        · rw [if_neg hs]
          simp (disch := omega) only [f_X9_growProud, b_X9_growProud_0, neg_nI, lit_nI, nI_add, pk_mul, pk_sub, nI_clamp, inB_nI, gd_true, bnd_def, nI_leI, nI_ltI, nI_eq, nI_mI, mI_nI, nle_T, nle_F, nlt_T, nlt_F, neq_T, neq_F, ↓reduceIte, Nat.add_zero, Nat.zero_add, Nat.mul_zero, Nat.reduceAdd, Nat.reduceMul, Nat.reduceSub, ob1_e, ob2_e, ob3_e, ob4_e, ob6_e]
        · simp (disch := omega) only [f_X12_drawDay_2, f_X12_drawDay, b_X12_drawDay_56, b_X12_drawDay_2, b_X12_drawDay_0, drawY_c, hs, hmb, neg_nI, lit_nI, nI_add, pk_mul, pk_sub, nI_clamp, inB_nI, gd_true, bnd_def, nI_leI, nI_ltI, nI_eq, nI_mI, mI_nI, nle_T, nle_F, nlt_T, nlt_F, neq_T, neq_F, ↓reduceIte, Nat.add_zero, Nat.zero_add, Nat.mul_zero, Nat.reduceAdd, Nat.reduceMul, Nat.reduceSub, ob1_e, ob2_e, ob3_e, ob4_e, ob6_e]
    have hC2 : RC G M th bk d cc mcc := hC.act g3 g4 g5 g6
    obtain ⟨c2, bk2, m2, p1, p2, p3, p4⟩ := pass_l hG hM hh hC2 (by omega)
    have hA2 := (k3.pass k4 p4).next k5 k6 (show d ≤ d + 1 by omega) (by omega)
    obtain ⟨x', lt', st', c', bk', s', nx', rows', y', lt2', st2', m', kept', dd', r1, r2, r3, r4, r5⟩ := ih (k + 1) n n' (dwx xb) ltb stb lt2b st2b c2 bk2 s1 nx1 rows1 m2 kept1 (d + 1) _ (by omega) (by omega) (by omega) p3 hA2 (by show (if s1 = s1 then d + 1 else dd1 s1) = d + 1; rw [if_pos rfl]) (by omega)
    rw [show d + 1 + j = d + (j + 1) by omega] at r1 r2 r3 r5
    refine ⟨x', lt', st', c', bk', s', nx', rows', y', lt2', st2', m', kept', dd', ?_, ?_, r3, r4, r5⟩
    · rw [← r1]
      by_cases hs : sp ≤ dwv xb 10
      · rw [if_pos hs] at g1
        cases g1
        simp (disch := omega) only [f_X11_years_43, f_X11_years, b_X11_years_88, b_X11_years_43, b_X11_years_0, k1, a1, b1, drawX_c, hs, p1, neg_nI, lit_nI, nI_add, pk_mul, pk_sub, nI_clamp, inB_nI, gd_true, bnd_def, nI_leI, nI_ltI, nI_eq, nI_mI, mI_nI, nle_T, nle_F, nlt_T, nlt_F, neq_T, neq_F, ↓reduceIte, Nat.add_zero, Nat.zero_add, Nat.mul_zero, Nat.reduceAdd, Nat.reduceMul, Nat.reduceSub, ob1_e, ob2_e, ob3_e, ob4_e, ob6_e]
      · rw [if_neg hs] at g1
        simp (disch := omega) only [f_X11_years_43, f_X11_years, b_X11_years_88, b_X11_years_43, b_X11_years_0, k1, a1, b1, drawX_c, hs, g1, p1, neg_nI, lit_nI, nI_add, pk_mul, pk_sub, nI_clamp, inB_nI, gd_true, bnd_def, nI_leI, nI_ltI, nI_eq, nI_mI, mI_nI, nle_T, nle_F, nlt_T, nlt_F, neq_T, neq_F, ↓reduceIte, Nat.add_zero, Nat.zero_add, Nat.mul_zero, Nat.reduceAdd, Nat.reduceMul, Nat.reduceSub, ob1_e, ob2_e, ob3_e, ob4_e, ob6_e]
    · rw [← r2]
      have q : f_X12_drawDay (nI G) (nI M) mh sp mc mv mk mt ms mu mg mm x lt2 st2 m = some (dwx xb, lt2b, st2b, mcc) := by
        unfold f_X12_drawDay b_X12_drawDay_0
        rw [hfu]
        exact (a2.trans b2).trans g2
      simp (disch := omega) only [f_X12_years_25, b_X12_years_25, k2, q, p2, neg_nI, lit_nI, nI_add, pk_mul, pk_sub, nI_clamp, inB_nI, gd_true, bnd_def, nI_leI, nI_ltI, nI_eq, nI_mI, mI_nI, nle_T, nle_F, nlt_T, nlt_F, neq_T, neq_F, ↓reduceIte, Nat.add_zero, Nat.zero_add, Nat.mul_zero, Nat.reduceAdd, Nat.reduceMul, Nat.reduceSub, ob1_e, ob2_e, ob3_e, ob4_e, ob6_e]
theorem s_years {s nx : Nat} {bk rows kept c m rf mr : Nat → Int32} (hX : RiseX R lh ll l0 l1 l2 l3) (hY : RiseY R mh mc mv mk mt ms mu) (hG : G ≤ 6) (hM : M ≤ 5) (hh : ∀ g, g < G → mg (4 * g) = th g) (ha : ∀ g, g < G → mg (4 * g + 3) = ta g) (hn : ∀ k, k < M → mm (2 * k + 1) = tn k) (hD : RD G M th bk s nx rows kept c m rf mr) (xd yd : Int64) (lt st lt2 st2 : Nat → Int32) (v : Int32) (x : Int64) : ∃ r x' lt' st' c' bk' s' nx' rows' y' lt2' st2' m' kept', f_X11_years sp (nI G) (nI M) th ta tn lh ll l0 l1 l2 l3 xd lt st c bk (nI s) (nI nx) rows v x = some (r, x', lt', st', c', bk', nI s', nI nx', rows') ∧ f_X12_years (nI G) (nI M) mh sp mc mv mk mt ms mu mg mm (nI s) yd lt2 st2 m kept v x = some (r, nI s', y', lt2', st2', m', kept') ∧ RD G M th bk' s' nx' rows' kept' c' m' rf mr := by
  have hD0 := hD
  obtain ⟨d, dd, hC, hA, hd, hF⟩ := hD
  have e1 : c 68 = nI d := hC.2.2.1.1
  have e2 : m 68 = nI d := by rw [hC.1 68 (by omega)]; exact e1
  have hd9 : d ≤ 999 := hC.2.2.1.2
  by_cases g0 : G = 0
  · refine ⟨mI 1, xd, lt, st, c, bk, s, nx, rows, yd, lt2, st2, m, kept, ?_, ?_, hD0⟩
    · simp (disch := omega) only [f_X11_years, b_X11_years_88, b_X11_years_43, b_X11_years_0, noPeace_y g0, neg_nI, lit_nI, nI_add, pk_mul, pk_sub, nI_clamp, inB_nI, gd_true, bnd_def, nI_leI, nI_ltI, nI_eq, nI_mI, mI_nI, nle_T, nle_F, nlt_T, nlt_F, neq_T, neq_F, ↓reduceIte, Nat.add_zero, Nat.zero_add, Nat.mul_zero, Nat.reduceAdd, Nat.reduceMul, Nat.reduceSub, ob1_e, ob2_e, ob3_e, ob4_e, ob6_e]
    · simp (disch := omega) only [f_X12_years, b_X12_years_25, b_X12_years_0, neg_nI, lit_nI, nI_add, pk_mul, pk_sub, nI_clamp, inB_nI, gd_true, bnd_def, nI_leI, nI_ltI, nI_eq, nI_mI, mI_nI, nle_T, nle_F, nlt_T, nlt_F, neq_T, neq_F, ↓reduceIte, Nat.add_zero, Nat.zero_add, Nat.mul_zero, Nat.reduceAdd, Nat.reduceMul, Nat.reduceSub, ob1_e, ob2_e, ob3_e, ob4_e, ob6_e]
  · rcases rng v 60 (by omega) with ⟨j, hj, rfl⟩ | h0 | ⟨h0, h9, h9'⟩
    · by_cases j0 : j = 0
      · refine ⟨mI 1, xd, lt, st, c, bk, s, nx, rows, yd, lt2, st2, m, kept, ?_, ?_, hD0⟩
        · simp (disch := omega) only [f_X11_years, b_X11_years_88, b_X11_years_43, b_X11_years_0, noPeace_n, neg_nI, lit_nI, nI_add, pk_mul, pk_sub, nI_clamp, inB_nI, gd_true, bnd_def, nI_leI, nI_ltI, nI_eq, nI_mI, mI_nI, nle_T, nle_F, nlt_T, nlt_F, neq_T, neq_F, ↓reduceIte, Nat.add_zero, Nat.zero_add, Nat.mul_zero, Nat.reduceAdd, Nat.reduceMul, Nat.reduceSub, ob1_e, ob2_e, ob3_e, ob4_e, ob6_e]
        · simp (disch := omega) only [f_X12_years, b_X12_years_25, b_X12_years_0, f_X12_areDays, b_X12_areDays_0, in_lo (x := nI j) (lo := nI 1) (hi := nI 60) (nI_lt (by omega) (by omega)), neg_nI, lit_nI, nI_add, pk_mul, pk_sub, nI_clamp, inB_nI, gd_true, bnd_def, nI_leI, nI_ltI, nI_eq, nI_mI, mI_nI, nle_T, nle_F, nlt_T, nlt_F, neq_T, neq_F, ↓reduceIte, Nat.add_zero, Nat.zero_add, Nat.mul_zero, Nat.reduceAdd, Nat.reduceMul, Nat.reduceSub, ob1_e, ob2_e, ob3_e, ob4_e, ob6_e]
      · have i1 : f_X12_in (nI j) (nI 1) (nI 60) = some (nI 1) := in_y (nI_nlt (by omega) (by omega)) (nI_nlt (by omega) (by omega))
        by_cases h99 : d + j ≤ 999
        · obtain ⟨x', lt', st', c', bk', s', nx', rows', y', lt2', st2', m', kept', dd', r1, r2, r3, r4, r5⟩ := years_l (sp := sp) (N := j) hX hY hG (by omega) hM hh ha hn hj j 0 fu fu x lt st lt2 st2 c bk s nx rows m kept d dd (by omega) (by have := fu_le; omega) (by have := fu_le; omega) hC hA hd h99
          refine ⟨nI (d + j), x', lt', st', c', bk', s', nx', rows', y', lt2', st2', m', kept', ?_, ?_, d + j, dd', r3, r4, r5, hF⟩
          · rw [← r1]
            simp (disch := omega) only [f_X11_years, b_X11_years_88, b_X11_years_43, b_X11_years_0, noPeace_n, day_c, e1, neg_nI, lit_nI, nI_add, pk_mul, pk_sub, nI_clamp, inB_nI, gd_true, bnd_def, nI_leI, nI_ltI, nI_eq, nI_mI, mI_nI, nle_T, nle_F, nlt_T, nlt_F, neq_T, neq_F, ↓reduceIte, Nat.add_zero, Nat.zero_add, Nat.mul_zero, Nat.reduceAdd, Nat.reduceMul, Nat.reduceSub, ob1_e, ob2_e, ob3_e, ob4_e, ob6_e]
          · rw [← r2]
            simp (disch := omega) only [f_X12_years, b_X12_years_25, b_X12_years_0, f_X12_areDays, b_X12_areDays_0, i1, e2, neg_nI, lit_nI, nI_add, pk_mul, pk_sub, nI_clamp, inB_nI, gd_true, bnd_def, nI_leI, nI_ltI, nI_eq, nI_mI, mI_nI, nle_T, nle_F, nlt_T, nlt_F, neq_T, neq_F, ↓reduceIte, Nat.add_zero, Nat.zero_add, Nat.mul_zero, Nat.reduceAdd, Nat.reduceMul, Nat.reduceSub, ob1_e, ob2_e, ob3_e, ob4_e, ob6_e]
        · refine ⟨mI 1, xd, lt, st, c, bk, s, nx, rows, yd, lt2, st2, m, kept, ?_, ?_, hD0⟩
          · simp (disch := omega) only [f_X11_years, b_X11_years_88, b_X11_years_43, b_X11_years_0, noPeace_n, day_c, e1, neg_nI, lit_nI, nI_add, pk_mul, pk_sub, nI_clamp, inB_nI, gd_true, bnd_def, nI_leI, nI_ltI, nI_eq, nI_mI, mI_nI, nle_T, nle_F, nlt_T, nlt_F, neq_T, neq_F, ↓reduceIte, Nat.add_zero, Nat.zero_add, Nat.mul_zero, Nat.reduceAdd, Nat.reduceMul, Nat.reduceSub, ob1_e, ob2_e, ob3_e, ob4_e, ob6_e]
          · simp (disch := omega) only [f_X12_years, b_X12_years_25, b_X12_years_0, f_X12_areDays, b_X12_areDays_0, i1, e2, neg_nI, lit_nI, nI_add, pk_mul, pk_sub, nI_clamp, inB_nI, gd_true, bnd_def, nI_leI, nI_ltI, nI_eq, nI_mI, mI_nI, nle_T, nle_F, nlt_T, nlt_F, neq_T, neq_F, ↓reduceIte, Nat.add_zero, Nat.zero_add, Nat.mul_zero, Nat.reduceAdd, Nat.reduceMul, Nat.reduceSub, ob1_e, ob2_e, ob3_e, ob4_e, ob6_e]
    · have h1 : v < nI 1 := by
        rw [lt32] at h0 ⊢
        have a0 : (nI 0).toInt = 0 := by decide
        have a1 : (nI 1).toInt = 1 := by decide
        omega
      refine ⟨mI 1, xd, lt, st, c, bk, s, nx, rows, yd, lt2, st2, m, kept, ?_, ?_, hD0⟩
      · simp (disch := omega) only [f_X11_years, b_X11_years_88, b_X11_years_43, b_X11_years_0, noPeace_n, h1, neg_nI, lit_nI, nI_add, pk_mul, pk_sub, nI_clamp, inB_nI, gd_true, bnd_def, nI_leI, nI_ltI, nI_eq, nI_mI, mI_nI, nle_T, nle_F, nlt_T, nlt_F, neq_T, neq_F, ↓reduceIte, Nat.add_zero, Nat.zero_add, Nat.mul_zero, Nat.reduceAdd, Nat.reduceMul, Nat.reduceSub, ob1_e, ob2_e, ob3_e, ob4_e, ob6_e]
      · simp (disch := omega) only [f_X12_years, b_X12_years_25, b_X12_years_0, f_X12_areDays, b_X12_areDays_0, in_lo (hi := nI 60) h1, neg_nI, lit_nI, nI_add, pk_mul, pk_sub, nI_clamp, inB_nI, gd_true, bnd_def, nI_leI, nI_ltI, nI_eq, nI_mI, mI_nI, nle_T, nle_F, nlt_T, nlt_F, neq_T, neq_F, ↓reduceIte, Nat.add_zero, Nat.zero_add, Nat.mul_zero, Nat.reduceAdd, Nat.reduceMul, Nat.reduceSub, ob1_e, ob2_e, ob3_e, ob4_e, ob6_e]
    · have h1 : ¬ v < nI 1 := by
        rw [lt32] at h9 ⊢
        have a0 : (nI 60).toInt = 60 := by decide
        have a1 : (nI 1).toInt = 1 := by decide
        omega
      refine ⟨mI 1, xd, lt, st, c, bk, s, nx, rows, yd, lt2, st2, m, kept, ?_, ?_, hD0⟩
      · simp (disch := omega) only [f_X11_years, b_X11_years_88, b_X11_years_43, b_X11_years_0, noPeace_n, h1, h9, neg_nI, lit_nI, nI_add, pk_mul, pk_sub, nI_clamp, inB_nI, gd_true, bnd_def, nI_leI, nI_ltI, nI_eq, nI_mI, mI_nI, nle_T, nle_F, nlt_T, nlt_F, neq_T, neq_F, ↓reduceIte, Nat.add_zero, Nat.zero_add, Nat.mul_zero, Nat.reduceAdd, Nat.reduceMul, Nat.reduceSub, ob1_e, ob2_e, ob3_e, ob4_e, ob6_e]
      · simp (disch := omega) only [f_X12_years, b_X12_years_25, b_X12_years_0, f_X12_areDays, b_X12_areDays_0, in_hi (lo := nI 1) h9, neg_nI, lit_nI, nI_add, pk_mul, pk_sub, nI_clamp, inB_nI, gd_true, bnd_def, nI_leI, nI_ltI, nI_eq, nI_mI, mI_nI, nle_T, nle_F, nlt_T, nlt_F, neq_T, neq_F, ↓reduceIte, Nat.add_zero, Nat.zero_add, Nat.mul_zero, Nat.reduceAdd, Nat.reduceMul, Nat.reduceSub, ob1_e, ob2_e, ob3_e, ob4_e, ob6_e]
end YE
end
section
/-! the plain reads -/
section RE
variable {G M s nx : Nat} {th bk rows kept c m rf mr : Nat → Int32}
theorem s_rule (hG : G ≤ 6) (hD : RD G M th bk s nx rows kept c m rf mr) (v : Int32) : ∃ r, f_X11_rule (nI G) c v = some r ∧ f_X12_rule (nI G) m v = some r := by
  obtain ⟨d, dd, hC, -⟩ := hD
  have m66 : m 66 = c 66 := hC.1 66 (by omega)
  have m67 : m 67 = c 67 := hC.1 67 (by omega)
  by_cases g0 : G = 0
  · refine ⟨mI 1, ?_, ?_⟩
    · simp (disch := omega) only [f_X11_rule, b_X11_rule_0, noPeace_y g0, neg_nI, lit_nI, nI_add, pk_mul, pk_sub, nI_clamp, inB_nI, gd_true, bnd_def, nI_leI, nI_ltI, nI_eq, nI_mI, mI_nI, nle_T, nle_F, nlt_T, nlt_F, neq_T, neq_F, ↓reduceIte, Nat.add_zero, Nat.zero_add, Nat.mul_zero, Nat.reduceAdd, Nat.reduceMul, Nat.reduceSub, ob1_e, ob2_e, ob3_e, ob4_e, ob6_e]
    · simp (disch := omega) only [f_X12_rule, b_X12_rule_16, b_X12_rule_0, neg_nI, lit_nI, nI_add, pk_mul, pk_sub, nI_clamp, inB_nI, gd_true, bnd_def, nI_leI, nI_ltI, nI_eq, nI_mI, mI_nI, nle_T, nle_F, nlt_T, nlt_F, neq_T, neq_F, ↓reduceIte, Nat.add_zero, Nat.zero_add, Nat.mul_zero, Nat.reduceAdd, Nat.reduceMul, Nat.reduceSub, ob1_e, ob2_e, ob3_e, ob4_e, ob6_e]
  · rcases rng v 1 (by omega) with ⟨w, hw, rfl⟩ | k0 | ⟨k0, k1, k2⟩
    · rcases (show w = 0 ∨ w = 1 by omega) with rfl | rfl
      · refine ⟨c 66, ?_, ?_⟩
        · simp (disch := omega) only [f_X11_rule, b_X11_rule_0, noPeace_n, pride_c, neg_nI, lit_nI, nI_add, pk_mul, pk_sub, nI_clamp, inB_nI, gd_true, bnd_def, nI_leI, nI_ltI, nI_eq, nI_mI, mI_nI, nle_T, nle_F, nlt_T, nlt_F, neq_T, neq_F, ↓reduceIte, Nat.add_zero, Nat.zero_add, Nat.mul_zero, Nat.reduceAdd, Nat.reduceMul, Nat.reduceSub, ob1_e, ob2_e, ob3_e, ob4_e, ob6_e]
        · simp (disch := omega) only [f_X12_rule, b_X12_rule_16, b_X12_rule_0, in_c, m66, neg_nI, lit_nI, nI_add, pk_mul, pk_sub, nI_clamp, inB_nI, gd_true, bnd_def, nI_leI, nI_ltI, nI_eq, nI_mI, mI_nI, nle_T, nle_F, nlt_T, nlt_F, neq_T, neq_F, ↓reduceIte, Nat.add_zero, Nat.zero_add, Nat.mul_zero, Nat.reduceAdd, Nat.reduceMul, Nat.reduceSub, ob1_e, ob2_e, ob3_e, ob4_e, ob6_e]
      · refine ⟨c 67, ?_, ?_⟩
        · simp (disch := omega) only [f_X11_rule, b_X11_rule_0, noPeace_n, coins_c, neg_nI, lit_nI, nI_add, pk_mul, pk_sub, nI_clamp, inB_nI, gd_true, bnd_def, nI_leI, nI_ltI, nI_eq, nI_mI, mI_nI, nle_T, nle_F, nlt_T, nlt_F, neq_T, neq_F, ↓reduceIte, Nat.add_zero, Nat.zero_add, Nat.mul_zero, Nat.reduceAdd, Nat.reduceMul, Nat.reduceSub, ob1_e, ob2_e, ob3_e, ob4_e, ob6_e]
        · simp (disch := omega) only [f_X12_rule, b_X12_rule_16, b_X12_rule_0, in_c, m67, neg_nI, lit_nI, nI_add, pk_mul, pk_sub, nI_clamp, inB_nI, gd_true, bnd_def, nI_leI, nI_ltI, nI_eq, nI_mI, mI_nI, nle_T, nle_F, nlt_T, nlt_F, neq_T, neq_F, ↓reduceIte, Nat.add_zero, Nat.zero_add, Nat.mul_zero, Nat.reduceAdd, Nat.reduceMul, Nat.reduceSub, ob1_e, ob2_e, ob3_e, ob4_e, ob6_e]
    · refine ⟨mI 1, ?_, ?_⟩
      · simp (disch := omega) only [f_X11_rule, b_X11_rule_0, noPeace_n, k0, neg_nI, lit_nI, nI_add, pk_mul, pk_sub, nI_clamp, inB_nI, gd_true, bnd_def, nI_leI, nI_ltI, nI_eq, nI_mI, mI_nI, nle_T, nle_F, nlt_T, nlt_F, neq_T, neq_F, ↓reduceIte, Nat.add_zero, Nat.zero_add, Nat.mul_zero, Nat.reduceAdd, Nat.reduceMul, Nat.reduceSub, ob1_e, ob2_e, ob3_e, ob4_e, ob6_e]
      · simp (disch := omega) only [f_X12_rule, b_X12_rule_16, b_X12_rule_0, in_lo (hi := nI 1) k0, neg_nI, lit_nI, nI_add, pk_mul, pk_sub, nI_clamp, inB_nI, gd_true, bnd_def, nI_leI, nI_ltI, nI_eq, nI_mI, mI_nI, nle_T, nle_F, nlt_T, nlt_F, neq_T, neq_F, ↓reduceIte, Nat.add_zero, Nat.zero_add, Nat.mul_zero, Nat.reduceAdd, Nat.reduceMul, Nat.reduceSub, ob1_e, ob2_e, ob3_e, ob4_e, ob6_e]
    · refine ⟨mI 1, ?_, ?_⟩
      · simp (disch := omega) only [f_X11_rule, b_X11_rule_0, noPeace_n, k0, k2, neg_nI, lit_nI, nI_add, pk_mul, pk_sub, nI_clamp, inB_nI, gd_true, bnd_def, nI_leI, nI_ltI, nI_eq, nI_mI, mI_nI, nle_T, nle_F, nlt_T, nlt_F, neq_T, neq_F, ↓reduceIte, Nat.add_zero, Nat.zero_add, Nat.mul_zero, Nat.reduceAdd, Nat.reduceMul, Nat.reduceSub, ob1_e, ob2_e, ob3_e, ob4_e, ob6_e]
      · simp (disch := omega) only [f_X12_rule, b_X12_rule_16, b_X12_rule_0, in_hi (lo := nI 0) k1, neg_nI, lit_nI, nI_add, pk_mul, pk_sub, nI_clamp, inB_nI, gd_true, bnd_def, nI_leI, nI_ltI, nI_eq, nI_mI, mI_nI, nle_T, nle_F, nlt_T, nlt_F, neq_T, neq_F, ↓reduceIte, Nat.add_zero, Nat.zero_add, Nat.mul_zero, Nat.reduceAdd, Nat.reduceMul, Nat.reduceSub, ob1_e, ob2_e, ob3_e, ob4_e, ob6_e]
theorem s_matter {tw tn mm : Nat → Int32} (hM : M ≤ 5) (hw0 : ∀ k, k < M → mm (2 * k) = tw k) (hn : ∀ k, k < M → mm (2 * k + 1) = tn k) (hD : RD G M th bk s nx rows kept c m rf mr) (x v : Int32) : ∃ r, f_X11_matter (nI M) tw tn c x v = some r ∧ f_X12_matter (nI M) mm m x v = some r := by
  obtain ⟨d, dd, hC, -⟩ := hD
  rcases matter_or x (M := M) (by omega) with ⟨k, hk, rfl⟩ | ⟨q1, q2⟩
  · have e0 := hw0 k hk
    have e1 := hn k hk
    have e2 : m (60 + k) = c (60 + k) := hC.1 _ (by omega)
    rcases rng v 2 (by omega) with ⟨w, hw, rfl⟩ | k0 | ⟨k0, k1, k2⟩
    · rcases (show w = 0 ∨ w = 1 ∨ w = 2 by omega) with rfl | rfl | rfl
      · refine ⟨tw k, ?_, ?_⟩
        · simp (disch := omega) only [f_X11_matter, b_X11_matter_0, hasMatter_y, neg_nI, lit_nI, nI_add, pk_mul, pk_sub, nI_clamp, inB_nI, gd_true, bnd_def, nI_leI, nI_ltI, nI_eq, nI_mI, mI_nI, nle_T, nle_F, nlt_T, nlt_F, neq_T, neq_F, ↓reduceIte, Nat.add_zero, Nat.zero_add, Nat.mul_zero, Nat.reduceAdd, Nat.reduceMul, Nat.reduceSub, ob1_e, ob2_e, ob3_e, ob4_e, ob6_e]
        · simp (disch := omega) only [f_X12_matter, b_X12_matter_0, isMatter_y, in_c, e0, neg_nI, lit_nI, nI_add, pk_mul, pk_sub, nI_clamp, inB_nI, gd_true, bnd_def, nI_leI, nI_ltI, nI_eq, nI_mI, mI_nI, nle_T, nle_F, nlt_T, nlt_F, neq_T, neq_F, ↓reduceIte, Nat.add_zero, Nat.zero_add, Nat.mul_zero, Nat.reduceAdd, Nat.reduceMul, Nat.reduceSub, ob1_e, ob2_e, ob3_e, ob4_e, ob6_e]
      · refine ⟨tn k, ?_, ?_⟩
        · simp (disch := omega) only [f_X11_matter, b_X11_matter_0, hasMatter_y, neg_nI, lit_nI, nI_add, pk_mul, pk_sub, nI_clamp, inB_nI, gd_true, bnd_def, nI_leI, nI_ltI, nI_eq, nI_mI, mI_nI, nle_T, nle_F, nlt_T, nlt_F, neq_T, neq_F, ↓reduceIte, Nat.add_zero, Nat.zero_add, Nat.mul_zero, Nat.reduceAdd, Nat.reduceMul, Nat.reduceSub, ob1_e, ob2_e, ob3_e, ob4_e, ob6_e]
        · simp (disch := omega) only [f_X12_matter, b_X12_matter_0, isMatter_y, in_c, e1, neg_nI, lit_nI, nI_add, pk_mul, pk_sub, nI_clamp, inB_nI, gd_true, bnd_def, nI_leI, nI_ltI, nI_eq, nI_mI, mI_nI, nle_T, nle_F, nlt_T, nlt_F, neq_T, neq_F, ↓reduceIte, Nat.add_zero, Nat.zero_add, Nat.mul_zero, Nat.reduceAdd, Nat.reduceMul, Nat.reduceSub, ob1_e, ob2_e, ob3_e, ob4_e, ob6_e]
      · refine ⟨c (60 + k), ?_, ?_⟩
        · simp (disch := omega) only [f_X11_matter, b_X11_matter_0, hasMatter_y, signers_c, neg_nI, lit_nI, nI_add, pk_mul, pk_sub, nI_clamp, inB_nI, gd_true, bnd_def, nI_leI, nI_ltI, nI_eq, nI_mI, mI_nI, nle_T, nle_F, nlt_T, nlt_F, neq_T, neq_F, ↓reduceIte, Nat.add_zero, Nat.zero_add, Nat.mul_zero, Nat.reduceAdd, Nat.reduceMul, Nat.reduceSub, ob1_e, ob2_e, ob3_e, ob4_e, ob6_e]
        · simp (disch := omega) only [f_X12_matter, b_X12_matter_0, isMatter_y, in_c, e2, neg_nI, lit_nI, nI_add, pk_mul, pk_sub, nI_clamp, inB_nI, gd_true, bnd_def, nI_leI, nI_ltI, nI_eq, nI_mI, mI_nI, nle_T, nle_F, nlt_T, nlt_F, neq_T, neq_F, ↓reduceIte, Nat.add_zero, Nat.zero_add, Nat.mul_zero, Nat.reduceAdd, Nat.reduceMul, Nat.reduceSub, ob1_e, ob2_e, ob3_e, ob4_e, ob6_e]
    · refine ⟨mI 2, ?_, ?_⟩
      · simp (disch := omega) only [f_X11_matter, b_X11_matter_0, hasMatter_y, k0, neg_nI, lit_nI, nI_add, pk_mul, pk_sub, nI_clamp, inB_nI, gd_true, bnd_def, nI_leI, nI_ltI, nI_eq, nI_mI, mI_nI, nle_T, nle_F, nlt_T, nlt_F, neq_T, neq_F, ↓reduceIte, Nat.add_zero, Nat.zero_add, Nat.mul_zero, Nat.reduceAdd, Nat.reduceMul, Nat.reduceSub, ob1_e, ob2_e, ob3_e, ob4_e, ob6_e]
      · simp (disch := omega) only [f_X12_matter, b_X12_matter_0, isMatter_y, in_lo (hi := nI 2) k0, neg_nI, lit_nI, nI_add, pk_mul, pk_sub, nI_clamp, inB_nI, gd_true, bnd_def, nI_leI, nI_ltI, nI_eq, nI_mI, mI_nI, nle_T, nle_F, nlt_T, nlt_F, neq_T, neq_F, ↓reduceIte, Nat.add_zero, Nat.zero_add, Nat.mul_zero, Nat.reduceAdd, Nat.reduceMul, Nat.reduceSub, ob1_e, ob2_e, ob3_e, ob4_e, ob6_e]
    · refine ⟨mI 2, ?_, ?_⟩
      · simp (disch := omega) only [f_X11_matter, b_X11_matter_0, hasMatter_y, k0, k2, neg_nI, lit_nI, nI_add, pk_mul, pk_sub, nI_clamp, inB_nI, gd_true, bnd_def, nI_leI, nI_ltI, nI_eq, nI_mI, mI_nI, nle_T, nle_F, nlt_T, nlt_F, neq_T, neq_F, ↓reduceIte, Nat.add_zero, Nat.zero_add, Nat.mul_zero, Nat.reduceAdd, Nat.reduceMul, Nat.reduceSub, ob1_e, ob2_e, ob3_e, ob4_e, ob6_e]
      · simp (disch := omega) only [f_X12_matter, b_X12_matter_0, isMatter_y, in_hi (lo := nI 0) k1, neg_nI, lit_nI, nI_add, pk_mul, pk_sub, nI_clamp, inB_nI, gd_true, bnd_def, nI_leI, nI_ltI, nI_eq, nI_mI, mI_nI, nle_T, nle_F, nlt_T, nlt_F, neq_T, neq_F, ↓reduceIte, Nat.add_zero, Nat.zero_add, Nat.mul_zero, Nat.reduceAdd, Nat.reduceMul, Nat.reduceSub, ob1_e, ob2_e, ob3_e, ob4_e, ob6_e]
  · refine ⟨mI 2, ?_, ?_⟩
    · simp (disch := omega) only [f_X11_matter, b_X11_matter_0, q1, neg_nI, lit_nI, nI_add, pk_mul, pk_sub, nI_clamp, inB_nI, gd_true, bnd_def, nI_leI, nI_ltI, nI_eq, nI_mI, mI_nI, nle_T, nle_F, nlt_T, nlt_F, neq_T, neq_F, ↓reduceIte, Nat.add_zero, Nat.zero_add, Nat.mul_zero, Nat.reduceAdd, Nat.reduceMul, Nat.reduceSub, ob1_e, ob2_e, ob3_e, ob4_e, ob6_e]
    · simp (disch := omega) only [f_X12_matter, b_X12_matter_0, q2, neg_nI, lit_nI, nI_add, pk_mul, pk_sub, nI_clamp, inB_nI, gd_true, bnd_def, nI_leI, nI_ltI, nI_eq, nI_mI, mI_nI, nle_T, nle_F, nlt_T, nlt_F, neq_T, neq_F, ↓reduceIte, Nat.add_zero, Nat.zero_add, Nat.mul_zero, Nat.reduceAdd, Nat.reduceMul, Nat.reduceSub, ob1_e, ob2_e, ob3_e, ob4_e, ob6_e]
theorem s_warmth {mg : Nat → Int32} (hG : G ≤ 6) (hh : ∀ g, g < G → mg (4 * g) = th g) (hD : RD G M th bk s nx rows kept c m rf mr) (x y : Int32) : ∃ r, f_X11_warmth (nI G) th c x y = some r ∧ f_X12_warmth (nI G) mg m x y = some r := by
  obtain ⟨d, dd, hC, -⟩ := hD
  rcases two_or x y (th := th) (mg := mg) hG hh with ⟨g, o, hg, ho, rfl, rfl, ht⟩ | ⟨q1, q2⟩
  · have g1 := hh g hg
    have g2 := hh o ho
    have hp := pl_lt (a := g) (b := o) ⟨by omega, by omega⟩
    have e2 : m (pl g o) = c (pl g o) := hC.1 _ (by omega)
    refine ⟨c (pl g o), ?_, ?_⟩
    · simp (disch := omega) only [f_X11_warmth, b_X11_warmth_0, unlike_c, ht, warmthOf_c, neg_nI, lit_nI, nI_add, pk_mul, pk_sub, nI_clamp, inB_nI, gd_true, bnd_def, nI_leI, nI_ltI, nI_eq, nI_mI, mI_nI, nle_T, nle_F, nlt_T, nlt_F, neq_T, neq_F, ↓reduceIte, Nat.add_zero, Nat.zero_add, Nat.mul_zero, Nat.reduceAdd, Nat.reduceMul, Nat.reduceSub, ob1_e, ob2_e, ob3_e, ob4_e, ob6_e]
    · simp (disch := omega) only [f_X12_warmth, b_X12_warmth_0, areTwo_c, g1, g2, ht, pairAt_c, inB_pl, pl_clamp, e2, neg_nI, lit_nI, nI_add, pk_mul, pk_sub, nI_clamp, inB_nI, gd_true, bnd_def, nI_leI, nI_ltI, nI_eq, nI_mI, mI_nI, nle_T, nle_F, nlt_T, nlt_F, neq_T, neq_F, ↓reduceIte, Nat.add_zero, Nat.zero_add, Nat.mul_zero, Nat.reduceAdd, Nat.reduceMul, Nat.reduceSub, ob1_e, ob2_e, ob3_e, ob4_e, ob6_e]
  · refine ⟨mI 1, ?_, ?_⟩
    · simp (disch := omega) only [f_X11_warmth, b_X11_warmth_0, q1, neg_nI, lit_nI, nI_add, pk_mul, pk_sub, nI_clamp, inB_nI, gd_true, bnd_def, nI_leI, nI_ltI, nI_eq, nI_mI, mI_nI, nle_T, nle_F, nlt_T, nlt_F, neq_T, neq_F, ↓reduceIte, Nat.add_zero, Nat.zero_add, Nat.mul_zero, Nat.reduceAdd, Nat.reduceMul, Nat.reduceSub, ob1_e, ob2_e, ob3_e, ob4_e, ob6_e]
    · simp (disch := omega) only [f_X12_warmth, b_X12_warmth_0, q2, neg_nI, lit_nI, nI_add, pk_mul, pk_sub, nI_clamp, inB_nI, gd_true, bnd_def, nI_leI, nI_ltI, nI_eq, nI_mI, mI_nI, nle_T, nle_F, nlt_T, nlt_F, neq_T, neq_F, ↓reduceIte, Nat.add_zero, Nat.zero_add, Nat.mul_zero, Nat.reduceAdd, Nat.reduceMul, Nat.reduceSub, ob1_e, ob2_e, ob3_e, ob4_e, ob6_e]
theorem s_law {L : Nat} (hL : L ≤ 4) (lh v : Int32) : ∃ r h', f_X11_law (nI L) lh v = some (r, h') ∧ f_X12_law (nI L) lh v = some (r, h') ∧ (h' = lh ∨ h' = mI 1 ∨ ∃ j, j < L ∧ h' = nI j) := by
  by_cases h1 : v < mI 1
  · refine ⟨nI 0, lh, ?_, ?_, Or.inl rfl⟩
    · simp (disch := omega) only [f_X11_law, b_X11_law_0, h1, neg_nI, lit_nI, nI_add, pk_mul, pk_sub, nI_clamp, inB_nI, gd_true, bnd_def, nI_leI, nI_ltI, nI_eq, nI_mI, mI_nI, nle_T, nle_F, nlt_T, nlt_F, neq_T, neq_F, ↓reduceIte, Nat.add_zero, Nat.zero_add, Nat.mul_zero, Nat.reduceAdd, Nat.reduceMul, Nat.reduceSub, ob1_e, ob2_e, ob3_e, ob4_e, ob6_e]
    · simp only [f_X12_law, b_X12_law_0, in_lo h1, neg_nI, lit_nI, nI_add, pk_mul, pk_sub, nI_clamp, inB_nI, gd_true, bnd_def, nI_leI, nI_ltI, nI_eq, nI_mI, mI_nI, nle_T, nle_F, nlt_T, nlt_F, neq_T, neq_F, ↓reduceIte, Nat.add_zero, Nat.zero_add, Nat.mul_zero, Nat.reduceAdd, Nat.reduceMul, Nat.reduceSub, ob1_e, ob2_e, ob3_e, ob4_e, ob6_e]
  · rcases rngN v L (by omega) with ⟨j, hj, rfl⟩ | k0 | ⟨k0, k1, k2⟩
    · refine ⟨nI 1, nI j, ?_, ?_, Or.inr (Or.inr ⟨j, hj, rfl⟩)⟩
      · simp (disch := omega) only [f_X11_law, b_X11_law_0, h1, neg_nI, lit_nI, nI_add, pk_mul, pk_sub, nI_clamp, inB_nI, gd_true, bnd_def, nI_leI, nI_ltI, nI_eq, nI_mI, mI_nI, nle_T, nle_F, nlt_T, nlt_F, neq_T, neq_F, ↓reduceIte, Nat.add_zero, Nat.zero_add, Nat.mul_zero, Nat.reduceAdd, Nat.reduceMul, Nat.reduceSub, ob1_e, ob2_e, ob3_e, ob4_e, ob6_e]
      · have q : f_X12_in (nI j) (mI 1) (nI (L - 1)) = some (nI 1) := in_y h1 (nI_nlt (by omega) (by omega))
        simp (disch := omega) only [f_X12_law, b_X12_law_0, q, neg_nI, lit_nI, nI_add, pk_mul, pk_sub, nI_clamp, inB_nI, gd_true, bnd_def, nI_leI, nI_ltI, nI_eq, nI_mI, mI_nI, nle_T, nle_F, nlt_T, nlt_F, neq_T, neq_F, ↓reduceIte, Nat.add_zero, Nat.zero_add, Nat.mul_zero, Nat.reduceAdd, Nat.reduceMul, Nat.reduceSub, ob1_e, ob2_e, ob3_e, ob4_e, ob6_e]
    · have e : v = mI 1 := by
        rw [lt32] at h1 k0
        have a0 : (nI 0).toInt = 0 := by decide
        have a1 : (mI 1).toInt = -1 := by decide
        apply Int32.toInt_inj.mp
        omega
      subst e
      have q0 : mI 1 < nI L := by
        rw [lt32, nI_toInt (by omega)]
        have a1 : (mI 1).toInt = -1 := by decide
        omega
      have q1 : f_X12_in (mI 1) (mI 1) (nI L - nI 1) = some (nI 1) := by
        refine in_y h1 ?_
        have h2 : (nI L).toInt = (L : Int) := nI_toInt (by omega)
        have h3 : (nI 1).toInt = (1 : Int) := by decide
        rw [lt32, Int32.toInt_sub, h2, h3, Int.bmod_eq_of_le (by omega) (by omega)]
        have a1 : (mI 1).toInt = -1 := by decide
        omega
      refine ⟨nI 1, mI 1, ?_, ?_, Or.inr (Or.inl rfl)⟩
      · simp (disch := omega) only [f_X11_law, b_X11_law_0, h1, q0, neg_nI, lit_nI, nI_add, pk_mul, pk_sub, nI_clamp, inB_nI, gd_true, bnd_def, nI_leI, nI_ltI, nI_eq, nI_mI, mI_nI, nle_T, nle_F, nlt_T, nlt_F, neq_T, neq_F, ↓reduceIte, Nat.add_zero, Nat.zero_add, Nat.mul_zero, Nat.reduceAdd, Nat.reduceMul, Nat.reduceSub, ob1_e, ob2_e, ob3_e, ob4_e, ob6_e]
      · simp only [f_X12_law, b_X12_law_0, q1, neg_nI, lit_nI, nI_eq, ob1_e, ob2_e, ob3_e, ob4_e, ob6_e]
        simp (disch := omega) only [neg_nI, lit_nI, nI_add, pk_mul, pk_sub, nI_clamp, inB_nI, gd_true, bnd_def, nI_leI, nI_ltI, nI_eq, nI_mI, mI_nI, nle_T, nle_F, nlt_T, nlt_F, neq_T, neq_F, ↓reduceIte, Nat.add_zero, Nat.zero_add, Nat.mul_zero, Nat.reduceAdd, Nat.reduceMul, Nat.reduceSub, ob1_e, ob2_e, ob3_e, ob4_e, ob6_e]
    · have q := in_hi (lo := mI 1) (nI_gm1 v (by omega) k1 k0)
      refine ⟨nI 0, lh, ?_, ?_, Or.inl rfl⟩
      · simp (disch := omega) only [f_X11_law, b_X11_law_0, h1, k2, neg_nI, lit_nI, nI_add, pk_mul, pk_sub, nI_clamp, inB_nI, gd_true, bnd_def, nI_leI, nI_ltI, nI_eq, nI_mI, mI_nI, nle_T, nle_F, nlt_T, nlt_F, neq_T, neq_F, ↓reduceIte, Nat.add_zero, Nat.zero_add, Nat.mul_zero, Nat.reduceAdd, Nat.reduceMul, Nat.reduceSub, ob1_e, ob2_e, ob3_e, ob4_e, ob6_e]
      · simp only [f_X12_law, b_X12_law_0, neg_nI, lit_nI, q, ob1_e, ob2_e, ob3_e, ob4_e, ob6_e]
        simp (disch := omega) only [neg_nI, lit_nI, nI_add, pk_mul, pk_sub, nI_clamp, inB_nI, gd_true, bnd_def, nI_leI, nI_ltI, nI_eq, nI_mI, mI_nI, nle_T, nle_F, nlt_T, nlt_F, neq_T, neq_F, ↓reduceIte, Nat.add_zero, Nat.zero_add, Nat.mul_zero, Nat.reduceAdd, Nat.reduceMul, Nat.reduceSub, ob1_e, ob2_e, ob3_e, ob4_e, ob6_e]
theorem s_spite (sp v : Int32) : ∃ r sp', f_X11_spite sp v = some (r, sp') ∧ f_X12_spite sp v = some (r, sp') := by
  rcases rng v 9 (by omega) with ⟨w, hw, rfl⟩ | k0 | ⟨k0, k1, k2⟩
  · by_cases e : nI w = sp
    · subst e
      refine ⟨nI 0, nI w, ?_, ?_⟩
      · simp (disch := omega) only [f_X11_spite, b_X11_spite_0, neg_nI, lit_nI, nI_add, pk_mul, pk_sub, nI_clamp, inB_nI, gd_true, bnd_def, nI_leI, nI_ltI, nI_eq, nI_mI, mI_nI, nle_T, nle_F, nlt_T, nlt_F, neq_T, neq_F, ↓reduceIte, Nat.add_zero, Nat.zero_add, Nat.mul_zero, Nat.reduceAdd, Nat.reduceMul, Nat.reduceSub, ob1_e, ob2_e, ob3_e, ob4_e, ob6_e]
      · simp (disch := omega) only [f_X12_spite, b_X12_spite_0, in_c, neg_nI, lit_nI, nI_add, pk_mul, pk_sub, nI_clamp, inB_nI, gd_true, bnd_def, nI_leI, nI_ltI, nI_eq, nI_mI, mI_nI, nle_T, nle_F, nlt_T, nlt_F, neq_T, neq_F, ↓reduceIte, Nat.add_zero, Nat.zero_add, Nat.mul_zero, Nat.reduceAdd, Nat.reduceMul, Nat.reduceSub, ob1_e, ob2_e, ob3_e, ob4_e, ob6_e]
    · refine ⟨nI 1, nI w, ?_, ?_⟩
      · simp (disch := omega) only [f_X11_spite, b_X11_spite_0, e, neg_nI, lit_nI, nI_add, pk_mul, pk_sub, nI_clamp, inB_nI, gd_true, bnd_def, nI_leI, nI_ltI, nI_eq, nI_mI, mI_nI, nle_T, nle_F, nlt_T, nlt_F, neq_T, neq_F, ↓reduceIte, Nat.add_zero, Nat.zero_add, Nat.mul_zero, Nat.reduceAdd, Nat.reduceMul, Nat.reduceSub, ob1_e, ob2_e, ob3_e, ob4_e, ob6_e]
      · simp (disch := omega) only [f_X12_spite, b_X12_spite_0, in_c, e, neg_nI, lit_nI, nI_add, pk_mul, pk_sub, nI_clamp, inB_nI, gd_true, bnd_def, nI_leI, nI_ltI, nI_eq, nI_mI, mI_nI, nle_T, nle_F, nlt_T, nlt_F, neq_T, neq_F, ↓reduceIte, Nat.add_zero, Nat.zero_add, Nat.mul_zero, Nat.reduceAdd, Nat.reduceMul, Nat.reduceSub, ob1_e, ob2_e, ob3_e, ob4_e, ob6_e]
  · refine ⟨nI 0, sp, ?_, ?_⟩
    · simp (disch := omega) only [f_X11_spite, b_X11_spite_0, k0, neg_nI, lit_nI, nI_add, pk_mul, pk_sub, nI_clamp, inB_nI, gd_true, bnd_def, nI_leI, nI_ltI, nI_eq, nI_mI, mI_nI, nle_T, nle_F, nlt_T, nlt_F, neq_T, neq_F, ↓reduceIte, Nat.add_zero, Nat.zero_add, Nat.mul_zero, Nat.reduceAdd, Nat.reduceMul, Nat.reduceSub, ob1_e, ob2_e, ob3_e, ob4_e, ob6_e]
    · simp (disch := omega) only [f_X12_spite, b_X12_spite_0, in_lo (hi := nI 9) k0, neg_nI, lit_nI, nI_add, pk_mul, pk_sub, nI_clamp, inB_nI, gd_true, bnd_def, nI_leI, nI_ltI, nI_eq, nI_mI, mI_nI, nle_T, nle_F, nlt_T, nlt_F, neq_T, neq_F, ↓reduceIte, Nat.add_zero, Nat.zero_add, Nat.mul_zero, Nat.reduceAdd, Nat.reduceMul, Nat.reduceSub, ob1_e, ob2_e, ob3_e, ob4_e, ob6_e]
  · refine ⟨nI 0, sp, ?_, ?_⟩
    · simp (disch := omega) only [f_X11_spite, b_X11_spite_0, k0, k1, neg_nI, lit_nI, nI_add, pk_mul, pk_sub, nI_clamp, inB_nI, gd_true, bnd_def, nI_leI, nI_ltI, nI_eq, nI_mI, mI_nI, nle_T, nle_F, nlt_T, nlt_F, neq_T, neq_F, ↓reduceIte, Nat.add_zero, Nat.zero_add, Nat.mul_zero, Nat.reduceAdd, Nat.reduceMul, Nat.reduceSub, ob1_e, ob2_e, ob3_e, ob4_e, ob6_e]
    · simp (disch := omega) only [f_X12_spite, b_X12_spite_0, in_hi (lo := nI 0) k1, neg_nI, lit_nI, nI_add, pk_mul, pk_sub, nI_clamp, inB_nI, gd_true, bnd_def, nI_leI, nI_ltI, nI_eq, nI_mI, mI_nI, nle_T, nle_F, nlt_T, nlt_F, neq_T, neq_F, ↓reduceIte, Nat.add_zero, Nat.zero_add, Nat.mul_zero, Nat.reduceAdd, Nat.reduceMul, Nat.reduceSub, ob1_e, ob2_e, ob3_e, ob4_e, ob6_e]
theorem s_status (hF : RF rf mr) (v : Int32) : ∃ r, f_X11_status rf v = some r ∧ f_X12_status mr v = some r := by
  rcases rng v 4 (by omega) with ⟨w, hw, rfl⟩ | k0 | ⟨k0, k1, k2⟩
  · have e := hF w (by omega)
    refine ⟨rf w, ?_, ?_⟩
    · simp (disch := omega) only [f_X11_status, b_X11_status_9, b_X11_status_0, neg_nI, lit_nI, nI_add, pk_mul, pk_sub, nI_clamp, inB_nI, gd_true, bnd_def, nI_leI, nI_ltI, nI_eq, nI_mI, mI_nI, nle_T, nle_F, nlt_T, nlt_F, neq_T, neq_F, ↓reduceIte, Nat.add_zero, Nat.zero_add, Nat.mul_zero, Nat.reduceAdd, Nat.reduceMul, Nat.reduceSub, ob1_e, ob2_e, ob3_e, ob4_e, ob6_e]
    · simp (disch := omega) only [f_X12_status, b_X12_status_0, in_c, e, neg_nI, lit_nI, nI_add, pk_mul, pk_sub, nI_clamp, inB_nI, gd_true, bnd_def, nI_leI, nI_ltI, nI_eq, nI_mI, mI_nI, nle_T, nle_F, nlt_T, nlt_F, neq_T, neq_F, ↓reduceIte, Nat.add_zero, Nat.zero_add, Nat.mul_zero, Nat.reduceAdd, Nat.reduceMul, Nat.reduceSub, ob1_e, ob2_e, ob3_e, ob4_e, ob6_e]
  · refine ⟨mI 1, ?_, ?_⟩
    · simp (disch := omega) only [f_X11_status, b_X11_status_9, b_X11_status_0, k0, neg_nI, lit_nI, nI_add, pk_mul, pk_sub, nI_clamp, inB_nI, gd_true, bnd_def, nI_leI, nI_ltI, nI_eq, nI_mI, mI_nI, nle_T, nle_F, nlt_T, nlt_F, neq_T, neq_F, ↓reduceIte, Nat.add_zero, Nat.zero_add, Nat.mul_zero, Nat.reduceAdd, Nat.reduceMul, Nat.reduceSub, ob1_e, ob2_e, ob3_e, ob4_e, ob6_e]
    · simp (disch := omega) only [f_X12_status, b_X12_status_0, in_lo (hi := nI 4) k0, neg_nI, lit_nI, nI_add, pk_mul, pk_sub, nI_clamp, inB_nI, gd_true, bnd_def, nI_leI, nI_ltI, nI_eq, nI_mI, mI_nI, nle_T, nle_F, nlt_T, nlt_F, neq_T, neq_F, ↓reduceIte, Nat.add_zero, Nat.zero_add, Nat.mul_zero, Nat.reduceAdd, Nat.reduceMul, Nat.reduceSub, ob1_e, ob2_e, ob3_e, ob4_e, ob6_e]
  · refine ⟨mI 1, ?_, ?_⟩
    · simp (disch := omega) only [f_X11_status, b_X11_status_9, b_X11_status_0, k0, k2, neg_nI, lit_nI, nI_add, pk_mul, pk_sub, nI_clamp, inB_nI, gd_true, bnd_def, nI_leI, nI_ltI, nI_eq, nI_mI, mI_nI, nle_T, nle_F, nlt_T, nlt_F, neq_T, neq_F, ↓reduceIte, Nat.add_zero, Nat.zero_add, Nat.mul_zero, Nat.reduceAdd, Nat.reduceMul, Nat.reduceSub, ob1_e, ob2_e, ob3_e, ob4_e, ob6_e]
    · simp (disch := omega) only [f_X12_status, b_X12_status_0, in_hi (lo := nI 0) k1, neg_nI, lit_nI, nI_add, pk_mul, pk_sub, nI_clamp, inB_nI, gd_true, bnd_def, nI_leI, nI_ltI, nI_eq, nI_mI, mI_nI, nle_T, nle_F, nlt_T, nlt_F, neq_T, neq_F, ↓reduceIte, Nat.add_zero, Nat.zero_add, Nat.mul_zero, Nat.reduceAdd, Nat.reduceMul, Nat.reduceSub, ob1_e, ob2_e, ob3_e, ob4_e, ob6_e]
theorem s_count {sp tl ls lh sg : Int32} (hG : G ≤ 6) (hD : RD G M th bk s nx rows kept c m rf mr) (v : Int32) : ∃ r, f_X11_count sp tl (nI G) (nI M) ls lh c (nI s) sg v = some r ∧ f_X12_count tl ls (nI G) (nI M) lh sp (nI s) sg m v = some r := by
  obtain ⟨d, dd, ⟨hN, hI, ⟨e68, hd9⟩, h69, hR⟩, -⟩ := hD
  have m68 : m 68 = c 68 := hN 68 (by omega)
  have mw : wall m = wall c := wall_cong (fun i hi => hN i (by omega))
  have mmet : cnF (pMet m) G 0 (nI 0) = cnF (pMet c) G 0 (nI 0) := by
    refine cnF_cong G 0 _ (fun i _ hi => ?_)
    unfold pMet
    rw [hN (54 + i) (by omega)]
  by_cases h0 : v = nI 0
  · refine ⟨nI G, ?_, ?_⟩
    · simp (disch := omega) only [f_X11_count, b_X11_count_0, h0, day_c, wallX_c, metBits_c hG, bitCount_c, lengthOn_c, e68, neg_nI, lit_nI, nI_add, pk_mul, pk_sub, nI_clamp, inB_nI, gd_true, bnd_def, nI_leI, nI_ltI, nI_eq, nI_mI, mI_nI, nle_T, nle_F, nlt_T, nlt_F, neq_T, neq_F, ↓reduceIte, Nat.add_zero, Nat.zero_add, Nat.mul_zero, Nat.reduceAdd, Nat.reduceMul, Nat.reduceSub, ob1_e, ob2_e, ob3_e, ob4_e, ob6_e]
    · simp (disch := omega) only [f_X12_count, b_X12_count_0, h0, m68, wallY_c, mw, metMany_c hG, mmet, h69, e68, neg_nI, lit_nI, nI_add, pk_mul, pk_sub, nI_clamp, inB_nI, gd_true, bnd_def, nI_leI, nI_ltI, nI_eq, nI_mI, mI_nI, nle_T, nle_F, nlt_T, nlt_F, neq_T, neq_F, ↓reduceIte, Nat.add_zero, Nat.zero_add, Nat.mul_zero, Nat.reduceAdd, Nat.reduceMul, Nat.reduceSub, ob1_e, ob2_e, ob3_e, ob4_e, ob6_e]
  by_cases h1 : v = nI 1
  · refine ⟨nI M, ?_, ?_⟩
    · simp (disch := omega) only [f_X11_count, b_X11_count_0, h1, day_c, wallX_c, metBits_c hG, bitCount_c, lengthOn_c, e68, neg_nI, lit_nI, nI_add, pk_mul, pk_sub, nI_clamp, inB_nI, gd_true, bnd_def, nI_leI, nI_ltI, nI_eq, nI_mI, mI_nI, nle_T, nle_F, nlt_T, nlt_F, neq_T, neq_F, ↓reduceIte, Nat.add_zero, Nat.zero_add, Nat.mul_zero, Nat.reduceAdd, Nat.reduceMul, Nat.reduceSub, ob1_e, ob2_e, ob3_e, ob4_e, ob6_e]
    · simp (disch := omega) only [f_X12_count, b_X12_count_0, h1, m68, wallY_c, mw, metMany_c hG, mmet, h69, e68, neg_nI, lit_nI, nI_add, pk_mul, pk_sub, nI_clamp, inB_nI, gd_true, bnd_def, nI_leI, nI_ltI, nI_eq, nI_mI, mI_nI, nle_T, nle_F, nlt_T, nlt_F, neq_T, neq_F, ↓reduceIte, Nat.add_zero, Nat.zero_add, Nat.mul_zero, Nat.reduceAdd, Nat.reduceMul, Nat.reduceSub, ob1_e, ob2_e, ob3_e, ob4_e, ob6_e]
  by_cases h2 : v = nI 2
  · refine ⟨ls, ?_, ?_⟩
    · simp (disch := omega) only [f_X11_count, b_X11_count_0, h2, day_c, wallX_c, metBits_c hG, bitCount_c, lengthOn_c, e68, neg_nI, lit_nI, nI_add, pk_mul, pk_sub, nI_clamp, inB_nI, gd_true, bnd_def, nI_leI, nI_ltI, nI_eq, nI_mI, mI_nI, nle_T, nle_F, nlt_T, nlt_F, neq_T, neq_F, ↓reduceIte, Nat.add_zero, Nat.zero_add, Nat.mul_zero, Nat.reduceAdd, Nat.reduceMul, Nat.reduceSub, ob1_e, ob2_e, ob3_e, ob4_e, ob6_e]
    · simp (disch := omega) only [f_X12_count, b_X12_count_0, h2, m68, wallY_c, mw, metMany_c hG, mmet, h69, e68, neg_nI, lit_nI, nI_add, pk_mul, pk_sub, nI_clamp, inB_nI, gd_true, bnd_def, nI_leI, nI_ltI, nI_eq, nI_mI, mI_nI, nle_T, nle_F, nlt_T, nlt_F, neq_T, neq_F, ↓reduceIte, Nat.add_zero, Nat.zero_add, Nat.mul_zero, Nat.reduceAdd, Nat.reduceMul, Nat.reduceSub, ob1_e, ob2_e, ob3_e, ob4_e, ob6_e]
  by_cases h3 : v = nI 3
  · refine ⟨tl, ?_, ?_⟩
    · simp (disch := omega) only [f_X11_count, b_X11_count_0, h3, day_c, wallX_c, metBits_c hG, bitCount_c, lengthOn_c, e68, neg_nI, lit_nI, nI_add, pk_mul, pk_sub, nI_clamp, inB_nI, gd_true, bnd_def, nI_leI, nI_ltI, nI_eq, nI_mI, mI_nI, nle_T, nle_F, nlt_T, nlt_F, neq_T, neq_F, ↓reduceIte, Nat.add_zero, Nat.zero_add, Nat.mul_zero, Nat.reduceAdd, Nat.reduceMul, Nat.reduceSub, ob1_e, ob2_e, ob3_e, ob4_e, ob6_e]
    · simp (disch := omega) only [f_X12_count, b_X12_count_0, h3, m68, wallY_c, mw, metMany_c hG, mmet, h69, e68, neg_nI, lit_nI, nI_add, pk_mul, pk_sub, nI_clamp, inB_nI, gd_true, bnd_def, nI_leI, nI_ltI, nI_eq, nI_mI, mI_nI, nle_T, nle_F, nlt_T, nlt_F, neq_T, neq_F, ↓reduceIte, Nat.add_zero, Nat.zero_add, Nat.mul_zero, Nat.reduceAdd, Nat.reduceMul, Nat.reduceSub, ob1_e, ob2_e, ob3_e, ob4_e, ob6_e]
  by_cases h4 : v = nI 4
  · refine ⟨lh, ?_, ?_⟩
    · simp (disch := omega) only [f_X11_count, b_X11_count_0, h4, day_c, wallX_c, metBits_c hG, bitCount_c, lengthOn_c, e68, neg_nI, lit_nI, nI_add, pk_mul, pk_sub, nI_clamp, inB_nI, gd_true, bnd_def, nI_leI, nI_ltI, nI_eq, nI_mI, mI_nI, nle_T, nle_F, nlt_T, nlt_F, neq_T, neq_F, ↓reduceIte, Nat.add_zero, Nat.zero_add, Nat.mul_zero, Nat.reduceAdd, Nat.reduceMul, Nat.reduceSub, ob1_e, ob2_e, ob3_e, ob4_e, ob6_e]
    · simp (disch := omega) only [f_X12_count, b_X12_count_0, h4, m68, wallY_c, mw, metMany_c hG, mmet, h69, e68, neg_nI, lit_nI, nI_add, pk_mul, pk_sub, nI_clamp, inB_nI, gd_true, bnd_def, nI_leI, nI_ltI, nI_eq, nI_mI, mI_nI, nle_T, nle_F, nlt_T, nlt_F, neq_T, neq_F, ↓reduceIte, Nat.add_zero, Nat.zero_add, Nat.mul_zero, Nat.reduceAdd, Nat.reduceMul, Nat.reduceSub, ob1_e, ob2_e, ob3_e, ob4_e, ob6_e]
  by_cases h5 : v = nI 5
  · refine ⟨c 68, ?_, ?_⟩
    · simp (disch := omega) only [f_X11_count, b_X11_count_0, h5, day_c, wallX_c, metBits_c hG, bitCount_c, lengthOn_c, e68, neg_nI, lit_nI, nI_add, pk_mul, pk_sub, nI_clamp, inB_nI, gd_true, bnd_def, nI_leI, nI_ltI, nI_eq, nI_mI, mI_nI, nle_T, nle_F, nlt_T, nlt_F, neq_T, neq_F, ↓reduceIte, Nat.add_zero, Nat.zero_add, Nat.mul_zero, Nat.reduceAdd, Nat.reduceMul, Nat.reduceSub, ob1_e, ob2_e, ob3_e, ob4_e, ob6_e]
    · simp (disch := omega) only [f_X12_count, b_X12_count_0, h5, m68, wallY_c, mw, metMany_c hG, mmet, h69, e68, neg_nI, lit_nI, nI_add, pk_mul, pk_sub, nI_clamp, inB_nI, gd_true, bnd_def, nI_leI, nI_ltI, nI_eq, nI_mI, mI_nI, nle_T, nle_F, nlt_T, nlt_F, neq_T, neq_F, ↓reduceIte, Nat.add_zero, Nat.zero_add, Nat.mul_zero, Nat.reduceAdd, Nat.reduceMul, Nat.reduceSub, ob1_e, ob2_e, ob3_e, ob4_e, ob6_e]
  by_cases h6 : v = nI 6
  · refine ⟨wall c, ?_, ?_⟩
    · simp (disch := omega) only [f_X11_count, b_X11_count_0, h6, day_c, wallX_c, metBits_c hG, bitCount_c, lengthOn_c, e68, neg_nI, lit_nI, nI_add, pk_mul, pk_sub, nI_clamp, inB_nI, gd_true, bnd_def, nI_leI, nI_ltI, nI_eq, nI_mI, mI_nI, nle_T, nle_F, nlt_T, nlt_F, neq_T, neq_F, ↓reduceIte, Nat.add_zero, Nat.zero_add, Nat.mul_zero, Nat.reduceAdd, Nat.reduceMul, Nat.reduceSub, ob1_e, ob2_e, ob3_e, ob4_e, ob6_e]
    · simp (disch := omega) only [f_X12_count, b_X12_count_0, h6, m68, wallY_c, mw, metMany_c hG, mmet, h69, e68, neg_nI, lit_nI, nI_add, pk_mul, pk_sub, nI_clamp, inB_nI, gd_true, bnd_def, nI_leI, nI_ltI, nI_eq, nI_mI, mI_nI, nle_T, nle_F, nlt_T, nlt_F, neq_T, neq_F, ↓reduceIte, Nat.add_zero, Nat.zero_add, Nat.mul_zero, Nat.reduceAdd, Nat.reduceMul, Nat.reduceSub, ob1_e, ob2_e, ob3_e, ob4_e, ob6_e]
  by_cases h7 : v = nI 7
  · refine ⟨cnF (pMet c) G 0 (nI 0), ?_, ?_⟩
    · simp (disch := omega) only [f_X11_count, b_X11_count_0, h7, day_c, wallX_c, metBits_c hG, bitCount_c, lengthOn_c, e68, neg_nI, lit_nI, nI_add, pk_mul, pk_sub, nI_clamp, inB_nI, gd_true, bnd_def, nI_leI, nI_ltI, nI_eq, nI_mI, mI_nI, nle_T, nle_F, nlt_T, nlt_F, neq_T, neq_F, ↓reduceIte, Nat.add_zero, Nat.zero_add, Nat.mul_zero, Nat.reduceAdd, Nat.reduceMul, Nat.reduceSub, ob1_e, ob2_e, ob3_e, ob4_e, ob6_e]
    · simp (disch := omega) only [f_X12_count, b_X12_count_0, h7, m68, wallY_c, mw, metMany_c hG, mmet, h69, e68, neg_nI, lit_nI, nI_add, pk_mul, pk_sub, nI_clamp, inB_nI, gd_true, bnd_def, nI_leI, nI_ltI, nI_eq, nI_mI, mI_nI, nle_T, nle_F, nlt_T, nlt_F, neq_T, neq_F, ↓reduceIte, Nat.add_zero, Nat.zero_add, Nat.mul_zero, Nat.reduceAdd, Nat.reduceMul, Nat.reduceSub, ob1_e, ob2_e, ob3_e, ob4_e, ob6_e]
  by_cases h8 : v = nI 8
  · refine ⟨sp, ?_, ?_⟩
    · simp (disch := omega) only [f_X11_count, b_X11_count_0, h8, day_c, wallX_c, metBits_c hG, bitCount_c, lengthOn_c, e68, neg_nI, lit_nI, nI_add, pk_mul, pk_sub, nI_clamp, inB_nI, gd_true, bnd_def, nI_leI, nI_ltI, nI_eq, nI_mI, mI_nI, nle_T, nle_F, nlt_T, nlt_F, neq_T, neq_F, ↓reduceIte, Nat.add_zero, Nat.zero_add, Nat.mul_zero, Nat.reduceAdd, Nat.reduceMul, Nat.reduceSub, ob1_e, ob2_e, ob3_e, ob4_e, ob6_e]
    · simp (disch := omega) only [f_X12_count, b_X12_count_0, h8, m68, wallY_c, mw, metMany_c hG, mmet, h69, e68, neg_nI, lit_nI, nI_add, pk_mul, pk_sub, nI_clamp, inB_nI, gd_true, bnd_def, nI_leI, nI_ltI, nI_eq, nI_mI, mI_nI, nle_T, nle_F, nlt_T, nlt_F, neq_T, neq_F, ↓reduceIte, Nat.add_zero, Nat.zero_add, Nat.mul_zero, Nat.reduceAdd, Nat.reduceMul, Nat.reduceSub, ob1_e, ob2_e, ob3_e, ob4_e, ob6_e]
  by_cases h9 : v = nI 9
  · refine ⟨sg, ?_, ?_⟩
    · simp (disch := omega) only [f_X11_count, b_X11_count_0, h9, day_c, wallX_c, metBits_c hG, bitCount_c, lengthOn_c, e68, neg_nI, lit_nI, nI_add, pk_mul, pk_sub, nI_clamp, inB_nI, gd_true, bnd_def, nI_leI, nI_ltI, nI_eq, nI_mI, mI_nI, nle_T, nle_F, nlt_T, nlt_F, neq_T, neq_F, ↓reduceIte, Nat.add_zero, Nat.zero_add, Nat.mul_zero, Nat.reduceAdd, Nat.reduceMul, Nat.reduceSub, ob1_e, ob2_e, ob3_e, ob4_e, ob6_e]
    · simp (disch := omega) only [f_X12_count, b_X12_count_0, h9, m68, wallY_c, mw, metMany_c hG, mmet, h69, e68, neg_nI, lit_nI, nI_add, pk_mul, pk_sub, nI_clamp, inB_nI, gd_true, bnd_def, nI_leI, nI_ltI, nI_eq, nI_mI, mI_nI, nle_T, nle_F, nlt_T, nlt_F, neq_T, neq_F, ↓reduceIte, Nat.add_zero, Nat.zero_add, Nat.mul_zero, Nat.reduceAdd, Nat.reduceMul, Nat.reduceSub, ob1_e, ob2_e, ob3_e, ob4_e, ob6_e]
  by_cases h10 : v = nI 10
  · refine ⟨nI (min 60 d), ?_, ?_⟩
    · simp (disch := omega) only [f_X11_count, b_X11_count_0, h10, day_c, wallX_c, metBits_c hG, bitCount_c, lengthOn_c, e68, neg_nI, lit_nI, nI_add, pk_mul, pk_sub, nI_clamp, inB_nI, gd_true, bnd_def, nI_leI, nI_ltI, nI_eq, nI_mI, mI_nI, nle_T, nle_F, nlt_T, nlt_F, neq_T, neq_F, ↓reduceIte, Nat.add_zero, Nat.zero_add, Nat.mul_zero, Nat.reduceAdd, Nat.reduceMul, Nat.reduceSub, ob1_e, ob2_e, ob3_e, ob4_e, ob6_e]
    · simp (disch := omega) only [f_X12_count, b_X12_count_0, h10, m68, wallY_c, mw, metMany_c hG, mmet, h69, e68, neg_nI, lit_nI, nI_add, pk_mul, pk_sub, nI_clamp, inB_nI, gd_true, bnd_def, nI_leI, nI_ltI, nI_eq, nI_mI, mI_nI, nle_T, nle_F, nlt_T, nlt_F, neq_T, neq_F, ↓reduceIte, Nat.add_zero, Nat.zero_add, Nat.mul_zero, Nat.reduceAdd, Nat.reduceMul, Nat.reduceSub, ob1_e, ob2_e, ob3_e, ob4_e, ob6_e]
  by_cases h11 : v = nI 11
  · refine ⟨nI s, ?_, ?_⟩
    · simp (disch := omega) only [f_X11_count, b_X11_count_0, h11, day_c, wallX_c, metBits_c hG, bitCount_c, lengthOn_c, e68, neg_nI, lit_nI, nI_add, pk_mul, pk_sub, nI_clamp, inB_nI, gd_true, bnd_def, nI_leI, nI_ltI, nI_eq, nI_mI, mI_nI, nle_T, nle_F, nlt_T, nlt_F, neq_T, neq_F, ↓reduceIte, Nat.add_zero, Nat.zero_add, Nat.mul_zero, Nat.reduceAdd, Nat.reduceMul, Nat.reduceSub, ob1_e, ob2_e, ob3_e, ob4_e, ob6_e]
    · simp (disch := omega) only [f_X12_count, b_X12_count_0, h11, m68, wallY_c, mw, metMany_c hG, mmet, h69, e68, neg_nI, lit_nI, nI_add, pk_mul, pk_sub, nI_clamp, inB_nI, gd_true, bnd_def, nI_leI, nI_ltI, nI_eq, nI_mI, mI_nI, nle_T, nle_F, nlt_T, nlt_F, neq_T, neq_F, ↓reduceIte, Nat.add_zero, Nat.zero_add, Nat.mul_zero, Nat.reduceAdd, Nat.reduceMul, Nat.reduceSub, ob1_e, ob2_e, ob3_e, ob4_e, ob6_e]
  refine ⟨mI 1000000, ?_, ?_⟩
  · simp (disch := omega) only [f_X11_count, b_X11_count_0, h0, h1, h2, h3, h4, h5, h6, h7, h8, h9, h10, h11, neg_nI, lit_nI, nI_add, pk_mul, pk_sub, nI_clamp, inB_nI, gd_true, bnd_def, nI_leI, nI_ltI, nI_eq, nI_mI, mI_nI, nle_T, nle_F, nlt_T, nlt_F, neq_T, neq_F, ↓reduceIte, Nat.add_zero, Nat.zero_add, Nat.mul_zero, Nat.reduceAdd, Nat.reduceMul, Nat.reduceSub, ob1_e, ob2_e, ob3_e, ob4_e, ob6_e]
  · simp (disch := omega) only [f_X12_count, b_X12_count_0, h0, h1, h2, h3, h4, h5, h6, h7, h8, h9, h10, h11, neg_nI, lit_nI, nI_add, pk_mul, pk_sub, nI_clamp, inB_nI, gd_true, bnd_def, nI_leI, nI_ltI, nI_eq, nI_mI, mI_nI, nle_T, nle_F, nlt_T, nlt_F, neq_T, neq_F, ↓reduceIte, Nat.add_zero, Nat.zero_add, Nat.mul_zero, Nat.reduceAdd, Nat.reduceMul, Nat.reduceSub, ob1_e, ob2_e, ob3_e, ob4_e, ob6_e]

/-- what a glove tells: a number behind 0, or 1 (no such one) -/
def gv (th ta c : Nat → Int32) (g w : Nat) : Int32 := if w = 0 then th g else if w = 1 then c (36 + g) else if w = 2 then c (42 + g) else if w = 3 then ta g else if w = 4 then (if c (54 + g) = mI 1 then nI 0 else nI 1) else c (48 + g)
theorem s_glove {ta mg : Nat → Int32} {tr : Int32} (hG : G ≤ 6) (hh : ∀ g, g < G → mg (4 * g) = th g) (ha : ∀ g, g < G → mg (4 * g + 3) = ta g) (hD : RD G M th bk s nx rows kept c m rf mr) (x v : Int32) : (∃ g w, g < G ∧ w ≤ 5 ∧ x = nI g ∧ v = nI w ∧ f_X12_glove (nI G) mg m tr x v = some (gv th ta c g w, nI 0)) ∨ ((f_X5_hasGlove (nI G) x = some (nI 0) ∨ (f_X5_hasGlove (nI G) x = some (nI 1) ∧ (v < nI 0 ∨ (¬ v < nI 0 ∧ nI 5 < v)))) ∧ f_X12_glove (nI G) mg m tr x v = some (nI 0, nI 1)) := by
  obtain ⟨d, dd, hC, -⟩ := hD
  rcases glove_or x hG with ⟨g, hg, rfl⟩ | ⟨q1, q2⟩
  · have e0 := hh g hg
    have e3 := ha g hg
    have e1 : m (36 + g) = c (36 + g) := hC.1 _ (by omega)
    have e2 : m (42 + g) = c (42 + g) := hC.1 _ (by omega)
    have e4 : m (54 + g) = c (54 + g) := hC.1 _ (by omega)
    have e5 : m (48 + g) = c (48 + g) := hC.1 _ (by omega)
    rcases rng v 5 (by omega) with ⟨w, hw, rfl⟩ | k0 | ⟨k0, k1, k2⟩
    · refine Or.inl ⟨g, w, hg, hw, rfl, rfl, ?_⟩
      rcases (show w = 0 ∨ w = 1 ∨ w = 2 ∨ w = 3 ∨ w = 4 ∨ w = 5 by omega) with rfl | rfl | rfl | rfl | rfl | rfl
      · simp (disch := omega) only [f_X12_glove, b_X12_glove_116, b_X12_glove_23, b_X12_glove_22, b_X12_glove_0, isGlove_y, in_c, of_c, e0, gv, neg_nI, lit_nI, nI_add, pk_mul, pk_sub, nI_clamp, inB_nI, gd_true, bnd_def, nI_leI, nI_ltI, nI_eq, nI_mI, mI_nI, nle_T, nle_F, nlt_T, nlt_F, neq_T, neq_F, ↓reduceIte, Nat.add_zero, Nat.zero_add, Nat.mul_zero, Nat.reduceAdd, Nat.reduceMul, Nat.reduceSub, ob1_e, ob2_e, ob3_e, ob4_e, ob6_e]
      · simp (disch := omega) only [f_X12_glove, b_X12_glove_116, b_X12_glove_23, b_X12_glove_22, b_X12_glove_0, isGlove_y, in_c, e1, gv, neg_nI, lit_nI, nI_add, pk_mul, pk_sub, nI_clamp, inB_nI, gd_true, bnd_def, nI_leI, nI_ltI, nI_eq, nI_mI, mI_nI, nle_T, nle_F, nlt_T, nlt_F, neq_T, neq_F, ↓reduceIte, Nat.add_zero, Nat.zero_add, Nat.mul_zero, Nat.reduceAdd, Nat.reduceMul, Nat.reduceSub, ob1_e, ob2_e, ob3_e, ob4_e, ob6_e]
      · simp (disch := omega) only [f_X12_glove, b_X12_glove_116, b_X12_glove_23, b_X12_glove_22, b_X12_glove_0, isGlove_y, in_c, e2, gv, neg_nI, lit_nI, nI_add, pk_mul, pk_sub, nI_clamp, inB_nI, gd_true, bnd_def, nI_leI, nI_ltI, nI_eq, nI_mI, mI_nI, nle_T, nle_F, nlt_T, nlt_F, neq_T, neq_F, ↓reduceIte, Nat.add_zero, Nat.zero_add, Nat.mul_zero, Nat.reduceAdd, Nat.reduceMul, Nat.reduceSub, ob1_e, ob2_e, ob3_e, ob4_e, ob6_e]
      · simp (disch := omega) only [f_X12_glove, b_X12_glove_116, b_X12_glove_23, b_X12_glove_22, b_X12_glove_0, isGlove_y, in_c, of_c, e3, gv, neg_nI, lit_nI, nI_add, pk_mul, pk_sub, nI_clamp, inB_nI, gd_true, bnd_def, nI_leI, nI_ltI, nI_eq, nI_mI, mI_nI, nle_T, nle_F, nlt_T, nlt_F, neq_T, neq_F, ↓reduceIte, Nat.add_zero, Nat.zero_add, Nat.mul_zero, Nat.reduceAdd, Nat.reduceMul, Nat.reduceSub, ob1_e, ob2_e, ob3_e, ob4_e, ob6_e]
      · by_cases hp : c (54 + g) = mI 1 <;> simp (disch := omega) only [f_X12_glove, b_X12_glove_116, b_X12_glove_23, b_X12_glove_22, b_X12_glove_0, isGlove_y, in_c, isFree_c, e4, hp, gv, neg_nI, lit_nI, nI_add, pk_mul, pk_sub, nI_clamp, inB_nI, gd_true, bnd_def, nI_leI, nI_ltI, nI_eq, nI_mI, mI_nI, nle_T, nle_F, nlt_T, nlt_F, neq_T, neq_F, ↓reduceIte, Nat.add_zero, Nat.zero_add, Nat.mul_zero, Nat.reduceAdd, Nat.reduceMul, Nat.reduceSub, ob1_e, ob2_e, ob3_e, ob4_e, ob6_e]
      · simp (disch := omega) only [f_X12_glove, b_X12_glove_116, b_X12_glove_23, b_X12_glove_22, b_X12_glove_0, isGlove_y, in_c, e5, gv, neg_nI, lit_nI, nI_add, pk_mul, pk_sub, nI_clamp, inB_nI, gd_true, bnd_def, nI_leI, nI_ltI, nI_eq, nI_mI, mI_nI, nle_T, nle_F, nlt_T, nlt_F, neq_T, neq_F, ↓reduceIte, Nat.add_zero, Nat.zero_add, Nat.mul_zero, Nat.reduceAdd, Nat.reduceMul, Nat.reduceSub, ob1_e, ob2_e, ob3_e, ob4_e, ob6_e]
    · refine Or.inr ⟨Or.inr ⟨hasGlove_y ⟨hg, hG⟩, Or.inl k0⟩, ?_⟩
      simp (disch := omega) only [f_X12_glove, b_X12_glove_116, b_X12_glove_23, b_X12_glove_22, b_X12_glove_0, isGlove_y, in_lo (hi := nI 5) k0, neg_nI, lit_nI, nI_add, pk_mul, pk_sub, nI_clamp, inB_nI, gd_true, bnd_def, nI_leI, nI_ltI, nI_eq, nI_mI, mI_nI, nle_T, nle_F, nlt_T, nlt_F, neq_T, neq_F, ↓reduceIte, Nat.add_zero, Nat.zero_add, Nat.mul_zero, Nat.reduceAdd, Nat.reduceMul, Nat.reduceSub, ob1_e, ob2_e, ob3_e, ob4_e, ob6_e]
    · refine Or.inr ⟨Or.inr ⟨hasGlove_y ⟨hg, hG⟩, Or.inr ⟨k0, k1⟩⟩, ?_⟩
      simp (disch := omega) only [f_X12_glove, b_X12_glove_116, b_X12_glove_23, b_X12_glove_22, b_X12_glove_0, isGlove_y, in_hi (lo := nI 0) k1, neg_nI, lit_nI, nI_add, pk_mul, pk_sub, nI_clamp, inB_nI, gd_true, bnd_def, nI_leI, nI_ltI, nI_eq, nI_mI, mI_nI, nle_T, nle_F, nlt_T, nlt_F, neq_T, neq_F, ↓reduceIte, Nat.add_zero, Nat.zero_add, Nat.mul_zero, Nat.reduceAdd, Nat.reduceMul, Nat.reduceSub, ob1_e, ob2_e, ob3_e, ob4_e, ob6_e]
  · refine Or.inr ⟨Or.inl q1, ?_⟩
    simp (disch := omega) only [f_X12_glove, b_X12_glove_116, b_X12_glove_23, b_X12_glove_22, b_X12_glove_0, q2, neg_nI, lit_nI, nI_add, pk_mul, pk_sub, nI_clamp, inB_nI, gd_true, bnd_def, nI_leI, nI_ltI, nI_eq, nI_mI, mI_nI, nle_T, nle_F, nlt_T, nlt_F, neq_T, neq_F, ↓reduceIte, Nat.add_zero, Nat.zero_add, Nat.mul_zero, Nat.reduceAdd, Nat.reduceMul, Nat.reduceSub, ob1_e, ob2_e, ob3_e, ob4_e, ob6_e]
end RE
end
section
/-! bits of an Int32 (these rows began as rows of the kit's BITS.to-paste) -/
def bt (x : Int32) (i : Nat) : Bool := x.toBitVec.getLsbD i
theorem b_ext {x y : Int32} (h : ∀ i, i < 32 → bt x i = bt y i) : x = y := Int32.toBitVec_inj.mp (BitVec.eq_of_getLsbD_eq (fun i hi => h i hi))
theorem b_or (x y : Int32) (i : Nat) : bt (x ||| y) i = (bt x i || bt y i) := by unfold bt; rw [Int32.toBitVec_or, BitVec.getLsbD_or]
theorem b_and (x y : Int32) (i : Nat) : bt (x &&& y) i = (bt x i && bt y i) := by unfold bt; rw [Int32.toBitVec_and, BitVec.getLsbD_and]
theorem s_l : ∀ n, n < 32 → ((nI n &&& 31).toBitVec.smod 32).toNat = n := by decide +kernel
theorem b_shl (n : Nat) (hn : n < 32) (x : Int32) {i : Nat} (hi : i < 32) : bt (x <<< (nI n &&& 31)) i = (decide (n ≤ i) && bt x (i - n)) := by
  unfold bt
  rw [Int32.toBitVec_shiftLeft]
  show (x.toBitVec <<< ((nI n &&& 31).toBitVec.smod 32).toNat).getLsbD i = _
  rw [s_l n hn, BitVec.getLsbD_shiftLeft]
  rcases Nat.lt_or_ge i n with h | h
  · simp [h, Nat.not_le.mpr h]
  · simp [hi, h, Nat.not_lt.mpr h]
theorem b_sshr (n : Nat) (hn : n < 32) (x : Int32) {i : Nat} (hi : i < 32) : bt (x >>> (nI n &&& 31)) i = if n + i < 32 then bt x (n + i) else bt x 31 := by
  unfold bt
  rw [Int32.toBitVec_shiftRight]
  show (x.toBitVec.sshiftRight ((nI n &&& 31).toBitVec.smod 32).toNat).getLsbD i = _
  rw [s_l n hn, BitVec.getLsbD_sshiftRight, BitVec.msb_eq_getLsbD_last]
  simp [hi]
theorem b_1 : ∀ i, i < 32 → bt (nI 1) i = decide (i = 0) := by decide +kernel
theorem b_z : ∀ i, i < 32 → bt (nI 0) i = false := by decide +kernel
theorem and1 (y : Int32) : y &&& nI 1 = if bt y 0 = true then nI 1 else nI 0 := by
  apply b_ext
  intro i hi
  rw [b_and, b_1 i hi]
  by_cases h : bt y 0 = true
  · rw [if_pos h, b_1 i hi]
    by_cases e : i = 0
    · rw [e, h]; rfl
    · rw [decide_eq_false e, Bool.and_false]
  · rw [if_neg h, b_z i hi]
    by_cases e : i = 0
    · rw [e]
      cases hb : bt y 0
      · rfl
      · exact absurd hb h
    · rw [decide_eq_false e, Bool.and_false]
theorem bit1 {i : Nat} (hi : i < 31) (x : Int32) : (x >>> (nI i &&& nI 31)) &&& nI 1 = if bt x i = true then nI 1 else nI 0 := by
  have h : bt (x >>> (nI i &&& nI 31)) 0 = bt x i := by
    have := b_sshr i (by omega) x (i := 0) (by omega)
    rw [if_pos (by omega)] at this
    exact this
  rw [and1, h]
theorem b_sh1 {k i : Nat} (hk : k < 31) (hi : i < 32) : bt ((1 : Int32) <<< (nI k &&& nI 31)) i = decide (i = k) := by
  have h := b_shl k (by omega) (1 : Int32) (i := i) hi
  rw [show nI k &&& nI 31 = nI k &&& 31 from rfl, h]
  rcases Nat.lt_or_ge i k with q | q
  · rw [decide_eq_false (by omega), decide_eq_false (by omega)]; rfl
  · rw [decide_eq_true q, Bool.true_and]
    have := b_1 (i - k) (by omega)
    rw [show bt (1 : Int32) (i - k) = bt (nI 1) (i - k) from rfl, this]
    by_cases e : i = k
    · rw [decide_eq_true (by omega), decide_eq_true e]
    · rw [decide_eq_false (by omega), decide_eq_false e]
theorem b_bbF {p : Nat → Bool} {i : Nat} (hi : i < 32) : ∀ (j k : Nat) (v : Int32), k + j ≤ 31 → bt (bbF p j k v) i = (bt v i || (decide (k ≤ i ∧ i < k + j) && p i))
  | 0, k, v, _ => by
    unfold bbF
    rw [decide_eq_false (by omega), Bool.false_and, Bool.or_false]
  | j + 1, k, v, h => by
    unfold bbF
    rw [b_bbF hi j (k + 1) _ (by omega)]
    by_cases hp : p k = true
    · rw [if_pos hp, b_or, b_sh1 (by omega) hi]
      by_cases e : i = k
      · rw [decide_eq_true e, decide_eq_false (by omega), decide_eq_true (show k ≤ i ∧ i < k + (j + 1) by omega), e, hp]
        simp
      · rw [decide_eq_false e, Bool.or_false]
        congr 2
        exact decide_eq_decide.mpr (by omega)
    · rw [if_neg hp]
      by_cases e : i = k
      · rw [decide_eq_false (by omega), e]
        simp [hp]
      · congr 2
        exact decide_eq_decide.mpr (by omega)
/-! what was seen -/
def tr (R : R6) (tp : Int32) (tf ts ta : Nat → Int32) (g o : Nat) (f : Int32) : Int32 := R (f + tf o) (ts g + ts o) (nI 0) (if ta g = ta o then nI 1 else nI 0) tp (nI 0)
def oth (s1 s2 : Nat → Int32) (g i : Nat) : Nat := (if s1 i = nI g then s2 i else s1 i).toNatClampNeg
def okS (R : R6) (tp : Int32) (tf ts ta s1 s2 s3 s4 : Nat → Int32) (g : Nat) (f : Int32) (i : Nat) : Bool := decide (¬ (s1 i = nI g ∨ s2 i = nI g) ∨ (if tr R tp tf ts ta g (oth s1 s2 g i) f < s3 i then nI 0 else nI 1) = s4 i)
def allF (p : Nat → Bool) : Nat → Nat → Bool
  | 0, _ => true
  | j + 1, k => p k && allF p j (k + 1)
def bz (b : Bool) : Int32 := if b = true then nI 1 else nI 0
def RS (G q : Nat) (s1 s2 s3 s4 n1 n2 n3 n4 : Nat → Int32) : Prop := q ≤ 10 ∧ ∀ i, i < q → n1 i = s1 i ∧ n2 i = s2 i ∧ n3 i = s3 i ∧ n4 i = s4 i ∧ (∃ a, a < G ∧ s1 i = nI a) ∧ (∃ b, b < G ∧ s2 i = nI b)
section SE
variable {R : R6} {lh : Int32} {ll l0 l1 l2 l3 : Nat → Int32} {mh : Int32} {mc mv mk mt ms mu : Nat → Int32}
variable {G q : Nat} {tp : Int32} {th tf ts ta mg mr s1 s2 s3 s4 n1 n2 n3 n4 : Nat → Int32}
theorem reaches_c (hX : RiseX R lh ll l0 l1 l2 l3) {lt st : Nat → Int32} {g o : Nat} {f v : Int32} (h : g < 6 ∧ o < 6) : ∃ lt' st', f_X8_reaches tp tf ts ta lh ll l0 l1 l2 l3 lt st (nI g) f (nI o) v = some (if tr R tp tf ts ta g o f < v then nI 0 else nI 1, lt', st') := by
  obtain ⟨lt', st', e⟩ := hX lt st (f + tf o) (ts g + ts o) (nI 0) (if ta g = ta o then nI 1 else nI 0) tp (nI 0)
  refine ⟨lt', st', ?_⟩
  have e2 : tr R tp tf ts ta g o f = R (f + tf o) (ts g + ts o) (nI 0) (if ta g = ta o then nI 1 else nI 0) tp (nI 0) := rfl
  by_cases hv : tr R tp tf ts ta g o f < v
  · rw [if_pos hv]
    rw [e2] at hv
    simp (disch := omega) only [f_X8_reaches, b_X8_reaches_0, sameAim_c, e, hv, neg_nI, lit_nI, nI_add, pk_mul, pk_sub, nI_clamp, inB_nI, gd_true, bnd_def, nI_leI, nI_ltI, nI_eq, nI_mI, mI_nI, nle_T, nle_F, nlt_T, nlt_F, neq_T, neq_F, ↓reduceIte, Nat.add_zero, Nat.zero_add, Nat.mul_zero, Nat.reduceAdd, Nat.reduceMul, Nat.reduceSub, ob1_e, ob2_e, ob3_e, ob4_e, ob6_e]
  · rw [if_neg hv]
    rw [e2] at hv
    simp (disch := omega) only [f_X8_reaches, b_X8_reaches_0, sameAim_c, e, hv, neg_nI, lit_nI, nI_add, pk_mul, pk_sub, nI_clamp, inB_nI, gd_true, bnd_def, nI_leI, nI_ltI, nI_eq, nI_mI, mI_nI, nle_T, nle_F, nlt_T, nlt_F, neq_T, neq_F, ↓reduceIte, Nat.add_zero, Nat.zero_add, Nat.mul_zero, Nat.reduceAdd, Nat.reduceMul, Nat.reduceSub, ob1_e, ob2_e, ob3_e, ob4_e, ob6_e]
theorem toldRise_c (hY : RiseY R mh mc mv mk mt ms mu) (hG : G ≤ 6) (hf : ∀ g, g < G → mg (4 * g + 1) = tf g) (hs : ∀ g, g < G → mg (4 * g + 2) = ts g) (ha : ∀ g, g < G → mg (4 * g + 3) = ta g) (hp : mr 0 = tp) {lt st : Nat → Int32} {g o : Nat} {f : Int32} (hg : g < G) (ho : o < G) : ∃ lt' st', f_X12_toldRise mh mc mv mk mt ms mu mr mg lt st (nI g) (nI o) f = some (tr R tp tf ts ta g o f, lt', st') := by
  obtain ⟨lt', st', e⟩ := hY lt st (f + tf o) (ts g + ts o) (nI 0) (if ta g = ta o then nI 1 else nI 0) tp (nI 0) (by split; exact Or.inr rfl; exact Or.inl rfl)
  refine ⟨lt', st', ?_⟩
  have a1 := hf o ho
  have a2 := hs g hg
  have a3 := hs o ho
  have a4 := ha g hg
  have a5 := ha o ho
  simp (disch := omega) only [f_X12_toldRise, b_X12_toldRise_0, of_c, areAllies_c, a1, a2, a3, a4, a5, hp, e, tr, neg_nI, lit_nI, nI_add, pk_mul, pk_sub, nI_clamp, inB_nI, gd_true, bnd_def, nI_leI, nI_ltI, nI_eq, nI_mI, mI_nI, nle_T, nle_F, nlt_T, nlt_F, neq_T, neq_F, ↓reduceIte, Nat.add_zero, Nat.zero_add, Nat.mul_zero, Nat.reduceAdd, Nat.reduceMul, Nat.reduceSub, ob1_e, ob2_e, ob3_e, ob4_e, ob6_e]
theorem allow_l (hX : RiseX R lh ll l0 l1 l2 l3) (hG : G ≤ 6) (hS : RS G q s1 s2 s3 s4 n1 n2 n3 n4) {g : Nat} (hg : g < G) {f : Int32} : ∀ (j k n : Nat) (lt st : Nat → Int32), k + j = q → j < n → ∃ lt' st', f_X8_allow_2 tp tf ts ta lh ll l0 l1 l2 l3 (nI q) s1 s2 s3 s4 n lt st (nI g) f (nI k) = some (bz (allF (okS R tp tf ts ta s1 s2 s3 s4 g f) j k), lt', st') := by
  intro j
  induction j with
  | zero =>
    intro k n lt st hk h1
    obtain ⟨n, rfl⟩ : ∃ q, n = q + 1 := ⟨n - 1, by omega⟩
    have hq := hS.1
    exact ⟨lt, st, by simp (disch := omega) only [f_X8_allow_2, f_X8_allow, b_X8_allow_82, b_X8_allow_55, b_X8_allow_30, b_X8_allow_2, b_X8_allow_0, allF, bz, neg_nI, lit_nI, nI_add, pk_mul, pk_sub, nI_clamp, inB_nI, gd_true, bnd_def, nI_leI, nI_ltI, nI_eq, nI_mI, mI_nI, nle_T, nle_F, nlt_T, nlt_F, neq_T, neq_F, ↓reduceIte, Nat.add_zero, Nat.zero_add, Nat.mul_zero, Nat.reduceAdd, Nat.reduceMul, Nat.reduceSub, ob1_e, ob2_e, ob3_e, ob4_e, ob6_e]⟩
  | succ j ih =>
    intro k n lt st hk h1
    obtain ⟨n, rfl⟩ : ∃ q, n = q + 1 := ⟨n - 1, by omega⟩
    have hq := hS.1
    obtain ⟨-, -, -, -, ⟨a, ha, e1⟩, b, hb, e2⟩ := hS.2 k (by omega)
    by_cases c1 : s1 k = nI g
    · have eo : oth s1 s2 g k = b := by unfold oth; rw [if_pos c1, e2, nI_clamp (by omega)]
      obtain ⟨lt1, st1, er⟩ := reaches_c (R := R) (tp := tp) (tf := tf) (ts := ts) (ta := ta) hX (lt := lt) (st := st) (g := g) (o := b) (f := f) (v := s3 k) ⟨by omega, by omega⟩
      by_cases hv : (if tr R tp tf ts ta g b f < s3 k then nI 0 else nI 1) = s4 k
      · obtain ⟨lt2, st2, ei⟩ := ih (k + 1) n lt1 st1 (by omega) (by omega)
        have ok : okS R tp tf ts ta s1 s2 s3 s4 g f k = true := by unfold okS; rw [eo]; exact decide_eq_true (Or.inr hv)
        refine ⟨lt2, st2, ?_⟩
        simp (disch := omega) only [f_X8_allow_2, f_X8_allow, b_X8_allow_82, b_X8_allow_55, b_X8_allow_30, b_X8_allow_2, b_X8_allow_0, c1, e2, er, hv, ei, allF, ok, Bool.true_and, neg_nI, lit_nI, nI_add, pk_mul, pk_sub, nI_clamp, inB_nI, gd_true, bnd_def, nI_leI, nI_ltI, nI_eq, nI_mI, mI_nI, nle_T, nle_F, nlt_T, nlt_F, neq_T, neq_F, ↓reduceIte, Nat.add_zero, Nat.zero_add, Nat.mul_zero, Nat.reduceAdd, Nat.reduceMul, Nat.reduceSub, ob1_e, ob2_e, ob3_e, ob4_e, ob6_e]
      · have ok : okS R tp tf ts ta s1 s2 s3 s4 g f k = false := by unfold okS; rw [eo]; exact decide_eq_false (fun z => z.elim (fun y => y (Or.inl c1)) hv)
        refine ⟨lt1, st1, ?_⟩
        simp (disch := omega) only [f_X8_allow_2, f_X8_allow, b_X8_allow_82, b_X8_allow_55, b_X8_allow_30, b_X8_allow_2, b_X8_allow_0, c1, e2, er, hv, allF, ok, Bool.false_and, bz, Bool.false_eq_true, neg_nI, lit_nI, nI_add, pk_mul, pk_sub, nI_clamp, inB_nI, gd_true, bnd_def, nI_leI, nI_ltI, nI_eq, nI_mI, mI_nI, nle_T, nle_F, nlt_T, nlt_F, neq_T, neq_F, ↓reduceIte, Nat.add_zero, Nat.zero_add, Nat.mul_zero, Nat.reduceAdd, Nat.reduceMul, Nat.reduceSub, ob1_e, ob2_e, ob3_e, ob4_e, ob6_e]
    · by_cases c2 : s2 k = nI g
      · have eo : oth s1 s2 g k = a := by unfold oth; rw [if_neg c1, e1, nI_clamp (by omega)]
        obtain ⟨lt1, st1, er⟩ := reaches_c (R := R) (tp := tp) (tf := tf) (ts := ts) (ta := ta) hX (lt := lt) (st := st) (g := g) (o := a) (f := f) (v := s3 k) ⟨by omega, by omega⟩
        have c1' : ¬ nI a = nI g := by rw [← e1]; exact c1
        by_cases hv : (if tr R tp tf ts ta g a f < s3 k then nI 0 else nI 1) = s4 k
        · obtain ⟨lt2, st2, ei⟩ := ih (k + 1) n lt1 st1 (by omega) (by omega)
          have ok : okS R tp tf ts ta s1 s2 s3 s4 g f k = true := by unfold okS; rw [eo]; exact decide_eq_true (Or.inr hv)
          refine ⟨lt2, st2, ?_⟩
          simp (disch := omega) only [f_X8_allow_2, f_X8_allow, b_X8_allow_82, b_X8_allow_55, b_X8_allow_30, b_X8_allow_2, b_X8_allow_0, e1, c1', c2, er, hv, ei, allF, ok, Bool.true_and, neg_nI, lit_nI, nI_add, pk_mul, pk_sub, nI_clamp, inB_nI, gd_true, bnd_def, nI_leI, nI_ltI, nI_eq, nI_mI, mI_nI, nle_T, nle_F, nlt_T, nlt_F, neq_T, neq_F, ↓reduceIte, Nat.add_zero, Nat.zero_add, Nat.mul_zero, Nat.reduceAdd, Nat.reduceMul, Nat.reduceSub, ob1_e, ob2_e, ob3_e, ob4_e, ob6_e]
        · have ok : okS R tp tf ts ta s1 s2 s3 s4 g f k = false := by unfold okS; rw [eo]; exact decide_eq_false (fun z => z.elim (fun y => y (Or.inr c2)) hv)
          refine ⟨lt1, st1, ?_⟩
          simp (disch := omega) only [f_X8_allow_2, f_X8_allow, b_X8_allow_82, b_X8_allow_55, b_X8_allow_30, b_X8_allow_2, b_X8_allow_0, e1, c1', c2, er, hv, allF, ok, Bool.false_and, bz, Bool.false_eq_true, neg_nI, lit_nI, nI_add, pk_mul, pk_sub, nI_clamp, inB_nI, gd_true, bnd_def, nI_leI, nI_ltI, nI_eq, nI_mI, mI_nI, nle_T, nle_F, nlt_T, nlt_F, neq_T, neq_F, ↓reduceIte, Nat.add_zero, Nat.zero_add, Nat.mul_zero, Nat.reduceAdd, Nat.reduceMul, Nat.reduceSub, ob1_e, ob2_e, ob3_e, ob4_e, ob6_e]
      · obtain ⟨lt2, st2, ei⟩ := ih (k + 1) n lt st (by omega) (by omega)
        have ok : okS R tp tf ts ta s1 s2 s3 s4 g f k = true := by unfold okS; exact decide_eq_true (Or.inl (fun z => z.elim c1 c2))
        refine ⟨lt2, st2, ?_⟩
        simp (disch := omega) only [f_X8_allow_2, f_X8_allow, b_X8_allow_82, b_X8_allow_55, b_X8_allow_30, b_X8_allow_2, b_X8_allow_0, c1, c2, ei, allF, ok, Bool.true_and, neg_nI, lit_nI, nI_add, pk_mul, pk_sub, nI_clamp, inB_nI, gd_true, bnd_def, nI_leI, nI_ltI, nI_eq, nI_mI, mI_nI, nle_T, nle_F, nlt_T, nlt_F, neq_T, neq_F, ↓reduceIte, Nat.add_zero, Nat.zero_add, Nat.mul_zero, Nat.reduceAdd, Nat.reduceMul, Nat.reduceSub, ob1_e, ob2_e, ob3_e, ob4_e, ob6_e]
theorem freedom_l (hY : RiseY R mh mc mv mk mt ms mu) (hG : G ≤ 6) (hf : ∀ g, g < G → mg (4 * g + 1) = tf g) (hs : ∀ g, g < G → mg (4 * g + 2) = ts g) (ha : ∀ g, g < G → mg (4 * g + 3) = ta g) (hp : mr 0 = tp) (hS : RS G q s1 s2 s3 s4 n1 n2 n3 n4) {g : Nat} (hg : g < G) {f : Int32} : ∀ (j k n : Nat) (lt st : Nat → Int32), k + j = q → j < n → ∃ lt' st', f_X12_isFreedom_2 mh (nI q) mc mv mk mt ms mu mr mg n1 n2 n3 n4 n lt st (nI g) f (nI k) = some (bz (allF (okS R tp tf ts ta s1 s2 s3 s4 g f) j k), lt', st') := by
  intro j
  induction j with
  | zero =>
    intro k n lt st hk h1
    obtain ⟨n, rfl⟩ : ∃ q, n = q + 1 := ⟨n - 1, by omega⟩
    have hq := hS.1
    exact ⟨lt, st, by simp (disch := omega) only [f_X12_isFreedom_2, f_X12_isFreedom, b_X12_isFreedom_90, b_X12_isFreedom_79, b_X12_isFreedom_55, b_X12_isFreedom_30, b_X12_isFreedom_2, b_X12_isFreedom_0, allF, bz, neg_nI, lit_nI, nI_add, pk_mul, pk_sub, nI_clamp, inB_nI, gd_true, bnd_def, nI_leI, nI_ltI, nI_eq, nI_mI, mI_nI, nle_T, nle_F, nlt_T, nlt_F, neq_T, neq_F, ↓reduceIte, Nat.add_zero, Nat.zero_add, Nat.mul_zero, Nat.reduceAdd, Nat.reduceMul, Nat.reduceSub, ob1_e, ob2_e, ob3_e, ob4_e, ob6_e]⟩
  | succ j ih =>
    intro k n lt st hk h1
    obtain ⟨n, rfl⟩ : ∃ q, n = q + 1 := ⟨n - 1, by omega⟩
    have hq := hS.1
    obtain ⟨m1, m2, m3, m4, ⟨a, ha1, e1⟩, b, hb, e2⟩ := hS.2 k (by omega)
    by_cases c1 : s1 k = nI g
    · have eo : oth s1 s2 g k = b := by unfold oth; rw [if_pos c1, e2, nI_clamp (by omega)]
      obtain ⟨lt1, st1, er⟩ := toldRise_c (R := R) (tp := tp) (tf := tf) (ts := ts) (ta := ta) hY hG hf hs ha hp (lt := lt) (st := st) (g := g) (o := b) (f := f) hg hb
      by_cases hv : (if tr R tp tf ts ta g b f < s3 k then nI 0 else nI 1) = s4 k
      · obtain ⟨lt2, st2, ei⟩ := ih (k + 1) n lt1 st1 (by omega) (by omega)
        have ok : okS R tp tf ts ta s1 s2 s3 s4 g f k = true := by unfold okS; rw [eo]; exact decide_eq_true (Or.inr hv)
        refine ⟨lt2, st2, ?_⟩
        by_cases hw : tr R tp tf ts ta g b f < s3 k
        · rw [if_pos hw] at hv
          simp (disch := omega) only [f_X12_isFreedom_2, f_X12_isFreedom, b_X12_isFreedom_90, b_X12_isFreedom_79, b_X12_isFreedom_55, b_X12_isFreedom_30, b_X12_isFreedom_2, b_X12_isFreedom_0, m1, m2, m3, m4, c1, e2, er, hw, ← hv, ei, allF, ok, Bool.true_and, neg_nI, lit_nI, nI_add, pk_mul, pk_sub, nI_clamp, inB_nI, gd_true, bnd_def, nI_leI, nI_ltI, nI_eq, nI_mI, mI_nI, nle_T, nle_F, nlt_T, nlt_F, neq_T, neq_F, ↓reduceIte, Nat.add_zero, Nat.zero_add, Nat.mul_zero, Nat.reduceAdd, Nat.reduceMul, Nat.reduceSub, ob1_e, ob2_e, ob3_e, ob4_e, ob6_e]
        · rw [if_neg hw] at hv
          simp (disch := omega) only [f_X12_isFreedom_2, f_X12_isFreedom, b_X12_isFreedom_90, b_X12_isFreedom_79, b_X12_isFreedom_55, b_X12_isFreedom_30, b_X12_isFreedom_2, b_X12_isFreedom_0, m1, m2, m3, m4, c1, e2, er, hw, ← hv, ei, allF, ok, Bool.true_and, neg_nI, lit_nI, nI_add, pk_mul, pk_sub, nI_clamp, inB_nI, gd_true, bnd_def, nI_leI, nI_ltI, nI_eq, nI_mI, mI_nI, nle_T, nle_F, nlt_T, nlt_F, neq_T, neq_F, ↓reduceIte, Nat.add_zero, Nat.zero_add, Nat.mul_zero, Nat.reduceAdd, Nat.reduceMul, Nat.reduceSub, ob1_e, ob2_e, ob3_e, ob4_e, ob6_e]
      · have ok : okS R tp tf ts ta s1 s2 s3 s4 g f k = false := by unfold okS; rw [eo]; exact decide_eq_false (fun z => z.elim (fun y => y (Or.inl c1)) hv)
        refine ⟨lt1, st1, ?_⟩
        by_cases hw : tr R tp tf ts ta g b f < s3 k
        · rw [if_pos hw] at hv
          simp (disch := omega) only [f_X12_isFreedom_2, f_X12_isFreedom, b_X12_isFreedom_90, b_X12_isFreedom_79, b_X12_isFreedom_55, b_X12_isFreedom_30, b_X12_isFreedom_2, b_X12_isFreedom_0, m1, m2, m3, m4, c1, e2, er, hw, hv, allF, ok, Bool.false_and, bz, Bool.false_eq_true, neg_nI, lit_nI, nI_add, pk_mul, pk_sub, nI_clamp, inB_nI, gd_true, bnd_def, nI_leI, nI_ltI, nI_eq, nI_mI, mI_nI, nle_T, nle_F, nlt_T, nlt_F, neq_T, neq_F, ↓reduceIte, Nat.add_zero, Nat.zero_add, Nat.mul_zero, Nat.reduceAdd, Nat.reduceMul, Nat.reduceSub, ob1_e, ob2_e, ob3_e, ob4_e, ob6_e]
        · rw [if_neg hw] at hv
          simp (disch := omega) only [f_X12_isFreedom_2, f_X12_isFreedom, b_X12_isFreedom_90, b_X12_isFreedom_79, b_X12_isFreedom_55, b_X12_isFreedom_30, b_X12_isFreedom_2, b_X12_isFreedom_0, m1, m2, m3, m4, c1, e2, er, hw, hv, allF, ok, Bool.false_and, bz, Bool.false_eq_true, neg_nI, lit_nI, nI_add, pk_mul, pk_sub, nI_clamp, inB_nI, gd_true, bnd_def, nI_leI, nI_ltI, nI_eq, nI_mI, mI_nI, nle_T, nle_F, nlt_T, nlt_F, neq_T, neq_F, ↓reduceIte, Nat.add_zero, Nat.zero_add, Nat.mul_zero, Nat.reduceAdd, Nat.reduceMul, Nat.reduceSub, ob1_e, ob2_e, ob3_e, ob4_e, ob6_e]
    · by_cases c2 : s2 k = nI g
      · have eo : oth s1 s2 g k = a := by unfold oth; rw [if_neg c1, e1, nI_clamp (by omega)]
        obtain ⟨lt1, st1, er⟩ := toldRise_c (R := R) (tp := tp) (tf := tf) (ts := ts) (ta := ta) hY hG hf hs ha hp (lt := lt) (st := st) (g := g) (o := a) (f := f) hg ha1
        have c1' : ¬ nI a = nI g := by rw [← e1]; exact c1
        by_cases hv : (if tr R tp tf ts ta g a f < s3 k then nI 0 else nI 1) = s4 k
        · obtain ⟨lt2, st2, ei⟩ := ih (k + 1) n lt1 st1 (by omega) (by omega)
          have ok : okS R tp tf ts ta s1 s2 s3 s4 g f k = true := by unfold okS; rw [eo]; exact decide_eq_true (Or.inr hv)
          refine ⟨lt2, st2, ?_⟩
          by_cases hw : tr R tp tf ts ta g a f < s3 k
          · rw [if_pos hw] at hv
            simp (disch := omega) only [f_X12_isFreedom_2, f_X12_isFreedom, b_X12_isFreedom_90, b_X12_isFreedom_79, b_X12_isFreedom_55, b_X12_isFreedom_30, b_X12_isFreedom_2, b_X12_isFreedom_0, m1, m2, m3, m4, e1, c1', c2, er, hw, ← hv, ei, allF, ok, Bool.true_and, neg_nI, lit_nI, nI_add, pk_mul, pk_sub, nI_clamp, inB_nI, gd_true, bnd_def, nI_leI, nI_ltI, nI_eq, nI_mI, mI_nI, nle_T, nle_F, nlt_T, nlt_F, neq_T, neq_F, ↓reduceIte, Nat.add_zero, Nat.zero_add, Nat.mul_zero, Nat.reduceAdd, Nat.reduceMul, Nat.reduceSub, ob1_e, ob2_e, ob3_e, ob4_e, ob6_e]
          · rw [if_neg hw] at hv
            simp (disch := omega) only [f_X12_isFreedom_2, f_X12_isFreedom, b_X12_isFreedom_90, b_X12_isFreedom_79, b_X12_isFreedom_55, b_X12_isFreedom_30, b_X12_isFreedom_2, b_X12_isFreedom_0, m1, m2, m3, m4, e1, c1', c2, er, hw, ← hv, ei, allF, ok, Bool.true_and, neg_nI, lit_nI, nI_add, pk_mul, pk_sub, nI_clamp, inB_nI, gd_true, bnd_def, nI_leI, nI_ltI, nI_eq, nI_mI, mI_nI, nle_T, nle_F, nlt_T, nlt_F, neq_T, neq_F, ↓reduceIte, Nat.add_zero, Nat.zero_add, Nat.mul_zero, Nat.reduceAdd, Nat.reduceMul, Nat.reduceSub, ob1_e, ob2_e, ob3_e, ob4_e, ob6_e]
        · have ok : okS R tp tf ts ta s1 s2 s3 s4 g f k = false := by unfold okS; rw [eo]; exact decide_eq_false (fun z => z.elim (fun y => y (Or.inr c2)) hv)
          refine ⟨lt1, st1, ?_⟩
          by_cases hw : tr R tp tf ts ta g a f < s3 k
          · rw [if_pos hw] at hv
            simp (disch := omega) only [f_X12_isFreedom_2, f_X12_isFreedom, b_X12_isFreedom_90, b_X12_isFreedom_79, b_X12_isFreedom_55, b_X12_isFreedom_30, b_X12_isFreedom_2, b_X12_isFreedom_0, m1, m2, m3, m4, e1, c1', c2, er, hw, hv, allF, ok, Bool.false_and, bz, Bool.false_eq_true, neg_nI, lit_nI, nI_add, pk_mul, pk_sub, nI_clamp, inB_nI, gd_true, bnd_def, nI_leI, nI_ltI, nI_eq, nI_mI, mI_nI, nle_T, nle_F, nlt_T, nlt_F, neq_T, neq_F, ↓reduceIte, Nat.add_zero, Nat.zero_add, Nat.mul_zero, Nat.reduceAdd, Nat.reduceMul, Nat.reduceSub, ob1_e, ob2_e, ob3_e, ob4_e, ob6_e]
          · rw [if_neg hw] at hv
            simp (disch := omega) only [f_X12_isFreedom_2, f_X12_isFreedom, b_X12_isFreedom_90, b_X12_isFreedom_79, b_X12_isFreedom_55, b_X12_isFreedom_30, b_X12_isFreedom_2, b_X12_isFreedom_0, m1, m2, m3, m4, e1, c1', c2, er, hw, hv, allF, ok, Bool.false_and, bz, Bool.false_eq_true, neg_nI, lit_nI, nI_add, pk_mul, pk_sub, nI_clamp, inB_nI, gd_true, bnd_def, nI_leI, nI_ltI, nI_eq, nI_mI, mI_nI, nle_T, nle_F, nlt_T, nlt_F, neq_T, neq_F, ↓reduceIte, Nat.add_zero, Nat.zero_add, Nat.mul_zero, Nat.reduceAdd, Nat.reduceMul, Nat.reduceSub, ob1_e, ob2_e, ob3_e, ob4_e, ob6_e]
      · obtain ⟨lt2, st2, ei⟩ := ih (k + 1) n lt st (by omega) (by omega)
        have ok : okS R tp tf ts ta s1 s2 s3 s4 g f k = true := by unfold okS; exact decide_eq_true (Or.inl (fun z => z.elim c1 c2))
        refine ⟨lt2, st2, ?_⟩
        simp (disch := omega) only [f_X12_isFreedom_2, f_X12_isFreedom, b_X12_isFreedom_90, b_X12_isFreedom_79, b_X12_isFreedom_55, b_X12_isFreedom_30, b_X12_isFreedom_2, b_X12_isFreedom_0, m1, m2, c1, c2, ei, allF, ok, Bool.true_and, neg_nI, lit_nI, nI_add, pk_mul, pk_sub, nI_clamp, inB_nI, gd_true, bnd_def, nI_leI, nI_ltI, nI_eq, nI_mI, mI_nI, nle_T, nle_F, nlt_T, nlt_F, neq_T, neq_F, ↓reduceIte, Nat.add_zero, Nat.zero_add, Nat.mul_zero, Nat.reduceAdd, Nat.reduceMul, Nat.reduceSub, ob1_e, ob2_e, ob3_e, ob4_e, ob6_e]
end SE
end
section
/-! seen, fits, ask -/
def ftF (p : Nat → Bool) (i : Int32) : Nat → Nat → Int32 → Int32
  | 0, _, v => if i = mI 1 then v else mI 1
  | j + 1, k, v => if p k = true then (if v = i then nI k else ftF p i j (k + 1) (v + nI 1)) else ftF p i j (k + 1) v
theorem bz_t : bz true = nI 1 := (rfl)
theorem bz_f : bz false = nI 0 := (rfl)
def pF (R : R6) (tp : Int32) (tf ts ta s1 s2 s3 s4 : Nat → Int32) (q g k : Nat) : Bool := allF (okS R tp tf ts ta s1 s2 s3 s4 g (nI k)) q 0
def gpF (p : Nat → Bool) (t : Nat → Int32) (v : Int32) : Nat → Nat → Int32 → Int32
  | 0, _, x => x
  | j + 1, k, x => gpF p t v j (k + 1) (if p k = true then (if t k < v then x + mI 1 else x + nI 1) else x)
theorem gpF_b {p : Nat → Bool} {t : Nat → Int32} {v : Int32} : ∀ (j k : Nat) (x : Int32) (b : Nat), b + j ≤ 10 → -(b : Int) ≤ x.toInt → x.toInt ≤ b → -((b + j : Nat) : Int) ≤ (gpF p t v j k x).toInt ∧ (gpF p t v j k x).toInt ≤ ((b + j : Nat) : Int)
  | 0, k, x, b, _, h1, h2 => ⟨by simpa [gpF] using h1, by simpa [gpF] using h2⟩
  | j + 1, k, x, b, hb, h1, h2 => by
    unfold gpF
    have a1 : (mI 1).toInt = -1 := by decide
    have a2 : (nI 1).toInt = 1 := by decide
    have step : ∀ y : Int32, (-((b + 1 : Nat) : Int) ≤ y.toInt ∧ y.toInt ≤ ((b + 1 : Nat) : Int)) → -((b + (j + 1) : Nat) : Int) ≤ (gpF p t v j (k + 1) y).toInt ∧ (gpF p t v j (k + 1) y).toInt ≤ ((b + (j + 1) : Nat) : Int) := by
      intro y hy
      have := gpF_b (p := p) (t := t) (v := v) j (k + 1) y (b + 1) (by omega) hy.1 hy.2
      rw [show b + (j + 1) = b + 1 + j by omega]
      exact this
    apply step
    by_cases hp : p k = true
    · rw [if_pos hp]
      by_cases ht : t k < v
      · rw [if_pos ht, Int32.toInt_add, a1, Int.bmod_eq_of_le (by omega) (by omega)]
        omega
      · rw [if_neg ht, Int32.toInt_add, a2, Int.bmod_eq_of_le (by omega) (by omega)]
        omega
    · rw [if_neg hp]
      omega
theorem ab_lt {x : Int32} (h1 : -10 ≤ x.toInt) (h2 : x.toInt ≤ 10) : ¬ nI 11 ≤ ab x := by
  have a0 : (0 : Int32).toInt = 0 := by decide
  have a1 : (nI 11).toInt = 11 := by decide
  unfold ab
  by_cases h : (0 : Int32) ≤ x
  · rw [if_pos h, le32, a1]
    omega
  · rw [if_neg h, le32, a1, Int32.toInt_sub, a0]
    rw [Int.bmod_eq_of_le (by omega) (by omega)]
    omega
section SF
variable {R : R6} {lh : Int32} {ll l0 l1 l2 l3 : Nat → Int32} {mh : Int32} {mc mv mk mt ms mu : Nat → Int32}
variable {G q : Nat} {tp : Int32} {th tf ts ta mg mr s1 s2 s3 s4 n1 n2 n3 n4 : Nat → Int32}
theorem allow_c (hX : RiseX R lh ll l0 l1 l2 l3) (hG : G ≤ 6) (hS : RS G q s1 s2 s3 s4 n1 n2 n3 n4) {g k : Nat} (hg : g < G) (lt st : Nat → Int32) : ∃ lt' st', f_X8_allow tp tf ts ta lh ll l0 l1 l2 l3 (nI q) s1 s2 s3 s4 lt st (nI g) (nI k) = some (bz (pF R tp tf ts ta s1 s2 s3 s4 q g k), lt', st') := allow_l hX hG hS hg q 0 fu lt st (by omega) (by have := fu_le; have := hS.1; omega)
theorem freedom_c (hY : RiseY R mh mc mv mk mt ms mu) (hG : G ≤ 6) (hf : ∀ g, g < G → mg (4 * g + 1) = tf g) (hs : ∀ g, g < G → mg (4 * g + 2) = ts g) (ha : ∀ g, g < G → mg (4 * g + 3) = ta g) (hp : mr 0 = tp) (hS : RS G q s1 s2 s3 s4 n1 n2 n3 n4) {g k : Nat} (hg : g < G) (lt st : Nat → Int32) : ∃ lt' st', f_X12_isFreedom mh (nI q) mc mv mk mt ms mu mr mg n1 n2 n3 n4 lt st (nI g) (nI k) = some (bz (pF R tp tf ts ta s1 s2 s3 s4 q g k), lt', st') := freedom_l hY hG hf hs ha hp hS hg q 0 fu lt st (by omega) (by have := fu_le; have := hS.1; omega)
theorem fitsX_l (hX : RiseX R lh ll l0 l1 l2 l3) (hG : G ≤ 6) (hS : RS G q s1 s2 s3 s4 n1 n2 n3 n4) {g : Nat} (hg : g < G) {i : Int32} : ∀ (j k n : Nat) (lt st : Nat → Int32) (v : Int32), k + j = 10 → j < n → ∃ lt' st', f_X11_fits_23 (nI G) tp tf ts ta lh ll l0 l1 l2 l3 (nI q) s1 s2 s3 s4 n lt st (nI g) i v (nI k) = some (ftF (pF R tp tf ts ta s1 s2 s3 s4 q g) i j k v, lt', st') := by
  intro j
  induction j with
  | zero =>
    intro k n lt st v hk h1
    obtain ⟨n, rfl⟩ : ∃ q, n = q + 1 := ⟨n - 1, by omega⟩
    refine ⟨lt, st, ?_⟩
    by_cases hi : i = mI 1 <;> simp (disch := omega) only [f_X11_fits_23, f_X11_fits, b_X11_fits_54, b_X11_fits_23, b_X11_fits_0, ftF, hi, neg_nI, lit_nI, nI_add, pk_mul, pk_sub, nI_clamp, inB_nI, gd_true, bnd_def, nI_leI, nI_ltI, nI_eq, nI_mI, mI_nI, nle_T, nle_F, nlt_T, nlt_F, neq_T, neq_F, ↓reduceIte, Nat.add_zero, Nat.zero_add, Nat.mul_zero, Nat.reduceAdd, Nat.reduceMul, Nat.reduceSub, ob1_e, ob2_e, ob3_e, ob4_e, ob6_e]
  | succ j ih =>
    intro k n lt st v hk h1
    obtain ⟨n, rfl⟩ : ∃ q, n = q + 1 := ⟨n - 1, by omega⟩
    obtain ⟨lt1, st1, e⟩ := allow_c (R := R) (tp := tp) (tf := tf) (ts := ts) (ta := ta) hX hG hS (k := k) hg lt st
    cases hp : pF R tp tf ts ta s1 s2 s3 s4 q g k with
    | true =>
      rw [hp] at e
      by_cases hv : v = i
      · refine ⟨lt1, st1, ?_⟩
        simp (disch := omega) only [f_X11_fits_23, f_X11_fits, b_X11_fits_54, b_X11_fits_23, b_X11_fits_0, ftF, e, bz_t, hp, hv, neg_nI, lit_nI, nI_add, pk_mul, pk_sub, nI_clamp, inB_nI, gd_true, bnd_def, nI_leI, nI_ltI, nI_eq, nI_mI, mI_nI, nle_T, nle_F, nlt_T, nlt_F, neq_T, neq_F, ↓reduceIte, Nat.add_zero, Nat.zero_add, Nat.mul_zero, Nat.reduceAdd, Nat.reduceMul, Nat.reduceSub, ob1_e, ob2_e, ob3_e, ob4_e, ob6_e]
      · obtain ⟨lt2, st2, e2⟩ := ih (k + 1) n lt1 st1 (v + nI 1) (by omega) (by omega)
        refine ⟨lt2, st2, ?_⟩
        simp (disch := omega) only [f_X11_fits_23, f_X11_fits, b_X11_fits_54, b_X11_fits_23, b_X11_fits_0, ftF, e, bz_t, hp, hv, e2, neg_nI, lit_nI, nI_add, pk_mul, pk_sub, nI_clamp, inB_nI, gd_true, bnd_def, nI_leI, nI_ltI, nI_eq, nI_mI, mI_nI, nle_T, nle_F, nlt_T, nlt_F, neq_T, neq_F, ↓reduceIte, Nat.add_zero, Nat.zero_add, Nat.mul_zero, Nat.reduceAdd, Nat.reduceMul, Nat.reduceSub, ob1_e, ob2_e, ob3_e, ob4_e, ob6_e]
    | false =>
      rw [hp] at e
      obtain ⟨lt2, st2, e2⟩ := ih (k + 1) n lt1 st1 v (by omega) (by omega)
      refine ⟨lt2, st2, ?_⟩
      simp (disch := omega) only [f_X11_fits_23, f_X11_fits, b_X11_fits_54, b_X11_fits_23, b_X11_fits_0, ftF, e, bz_f, hp, e2, Bool.false_eq_true, neg_nI, lit_nI, nI_add, pk_mul, pk_sub, nI_clamp, inB_nI, gd_true, bnd_def, nI_leI, nI_ltI, nI_eq, nI_mI, mI_nI, nle_T, nle_F, nlt_T, nlt_F, neq_T, neq_F, ↓reduceIte, Nat.add_zero, Nat.zero_add, Nat.mul_zero, Nat.reduceAdd, Nat.reduceMul, Nat.reduceSub, ob1_e, ob2_e, ob3_e, ob4_e, ob6_e]
theorem fitsY_l (hY : RiseY R mh mc mv mk mt ms mu) (hG : G ≤ 6) (hf : ∀ g, g < G → mg (4 * g + 1) = tf g) (hs : ∀ g, g < G → mg (4 * g + 2) = ts g) (ha : ∀ g, g < G → mg (4 * g + 3) = ta g) (hpp : mr 0 = tp) (hS : RS G q s1 s2 s3 s4 n1 n2 n3 n4) {g : Nat} (hg : g < G) {i : Int32} : ∀ (j k n : Nat) (lt st : Nat → Int32) (v : Int32), k + j = 10 → j < n → ∃ lt' st', f_X12_fits_20 (nI G) mh (nI q) mc mv mk mt ms mu mr mg n1 n2 n3 n4 n lt st (nI g) i v (nI k) = some (ftF (pF R tp tf ts ta s1 s2 s3 s4 q g) i j k v, lt', st') := by
  intro j
  induction j with
  | zero =>
    intro k n lt st v hk h1
    obtain ⟨n, rfl⟩ : ∃ q, n = q + 1 := ⟨n - 1, by omega⟩
    refine ⟨lt, st, ?_⟩
    by_cases hi : i = mI 1 <;> simp (disch := omega) only [f_X12_fits_20, f_X12_fits, b_X12_fits_48, b_X12_fits_20, b_X12_fits_0, ftF, hi, neg_nI, lit_nI, nI_add, pk_mul, pk_sub, nI_clamp, inB_nI, gd_true, bnd_def, nI_leI, nI_ltI, nI_eq, nI_mI, mI_nI, nle_T, nle_F, nlt_T, nlt_F, neq_T, neq_F, ↓reduceIte, Nat.add_zero, Nat.zero_add, Nat.mul_zero, Nat.reduceAdd, Nat.reduceMul, Nat.reduceSub, ob1_e, ob2_e, ob3_e, ob4_e, ob6_e]
  | succ j ih =>
    intro k n lt st v hk h1
    obtain ⟨n, rfl⟩ : ∃ q, n = q + 1 := ⟨n - 1, by omega⟩
    obtain ⟨lt1, st1, e⟩ := freedom_c (R := R) (tp := tp) (tf := tf) (ts := ts) (ta := ta) hY hG hf hs ha hpp hS (k := k) hg lt st
    cases hp : pF R tp tf ts ta s1 s2 s3 s4 q g k with
    | true =>
      rw [hp] at e
      by_cases hv : v = i
      · refine ⟨lt1, st1, ?_⟩
        simp (disch := omega) only [f_X12_fits_20, f_X12_fits, b_X12_fits_48, b_X12_fits_20, b_X12_fits_0, ftF, e, bz_t, hp, hv, neg_nI, lit_nI, nI_add, pk_mul, pk_sub, nI_clamp, inB_nI, gd_true, bnd_def, nI_leI, nI_ltI, nI_eq, nI_mI, mI_nI, nle_T, nle_F, nlt_T, nlt_F, neq_T, neq_F, ↓reduceIte, Nat.add_zero, Nat.zero_add, Nat.mul_zero, Nat.reduceAdd, Nat.reduceMul, Nat.reduceSub, ob1_e, ob2_e, ob3_e, ob4_e, ob6_e]
      · obtain ⟨lt2, st2, e2⟩ := ih (k + 1) n lt1 st1 (v + nI 1) (by omega) (by omega)
        refine ⟨lt2, st2, ?_⟩
        simp (disch := omega) only [f_X12_fits_20, f_X12_fits, b_X12_fits_48, b_X12_fits_20, b_X12_fits_0, ftF, e, bz_t, hp, hv, e2, neg_nI, lit_nI, nI_add, pk_mul, pk_sub, nI_clamp, inB_nI, gd_true, bnd_def, nI_leI, nI_ltI, nI_eq, nI_mI, mI_nI, nle_T, nle_F, nlt_T, nlt_F, neq_T, neq_F, ↓reduceIte, Nat.add_zero, Nat.zero_add, Nat.mul_zero, Nat.reduceAdd, Nat.reduceMul, Nat.reduceSub, ob1_e, ob2_e, ob3_e, ob4_e, ob6_e]
    | false =>
      rw [hp] at e
      obtain ⟨lt2, st2, e2⟩ := ih (k + 1) n lt1 st1 v (by omega) (by omega)
      refine ⟨lt2, st2, ?_⟩
      simp (disch := omega) only [f_X12_fits_20, f_X12_fits, b_X12_fits_48, b_X12_fits_20, b_X12_fits_0, ftF, e, bz_f, hp, e2, Bool.false_eq_true, neg_nI, lit_nI, nI_add, pk_mul, pk_sub, nI_clamp, inB_nI, gd_true, bnd_def, nI_leI, nI_ltI, nI_eq, nI_mI, mI_nI, nle_T, nle_F, nlt_T, nlt_F, neq_T, neq_F, ↓reduceIte, Nat.add_zero, Nat.zero_add, Nat.mul_zero, Nat.reduceAdd, Nat.reduceMul, Nat.reduceSub, ob1_e, ob2_e, ob3_e, ob4_e, ob6_e]
theorem s_fits (hX : RiseX R lh ll l0 l1 l2 l3) (hY : RiseY R mh mc mv mk mt ms mu) (hG : G ≤ 6) (hf : ∀ g, g < G → mg (4 * g + 1) = tf g) (hs : ∀ g, g < G → mg (4 * g + 2) = ts g) (ha : ∀ g, g < G → mg (4 * g + 3) = ta g) (hpp : mr 0 = tp) (hS : RS G q s1 s2 s3 s4 n1 n2 n3 n4) (lt st lt2 st2 : Nat → Int32) (x i : Int32) : ∃ r lt' st' lt2' st2', f_X11_fits (nI G) tp tf ts ta lh ll l0 l1 l2 l3 (nI q) s1 s2 s3 s4 lt st x i = some (r, lt', st') ∧ f_X12_fits (nI G) mh (nI q) mc mv mk mt ms mu mr mg n1 n2 n3 n4 lt2 st2 x i = some (r, lt2', st2') := by
  rcases glove_or x hG with ⟨g, hg, rfl⟩ | ⟨q1, q2⟩
  · by_cases hi : mI 1 ≤ i
    · obtain ⟨lt', st', e1⟩ := fitsX_l (R := R) (tp := tp) (tf := tf) (ts := ts) (ta := ta) hX hG hS hg (i := i) 10 0 fu lt st (nI 0) (by omega) (by have := fu_le; omega)
      obtain ⟨lt2', st2', e2⟩ := fitsY_l (R := R) (tp := tp) (tf := tf) (ts := ts) (ta := ta) hY hG hf hs ha hpp hS hg (i := i) 10 0 fu lt2 st2 (nI 0) (by omega) (by have := fu_le; omega)
      refine ⟨ftF (pF R tp tf ts ta s1 s2 s3 s4 q g) i 10 0 (nI 0), lt', st', lt2', st2', ?_, ?_⟩
      · rw [← e1]
        simp (disch := omega) only [f_X11_fits, b_X11_fits_54, b_X11_fits_23, b_X11_fits_0, hasGlove_y, hi, neg_nI, lit_nI, nI_add, pk_mul, pk_sub, nI_clamp, inB_nI, gd_true, bnd_def, nI_leI, nI_ltI, nI_eq, nI_mI, mI_nI, nle_T, nle_F, nlt_T, nlt_F, neq_T, neq_F, ↓reduceIte, Nat.add_zero, Nat.zero_add, Nat.mul_zero, Nat.reduceAdd, Nat.reduceMul, Nat.reduceSub, ob1_e, ob2_e, ob3_e, ob4_e, ob6_e]
      · rw [← e2]
        simp (disch := omega) only [f_X12_fits, b_X12_fits_48, b_X12_fits_20, b_X12_fits_0, isGlove_y, hi, neg_nI, lit_nI, nI_add, pk_mul, pk_sub, nI_clamp, inB_nI, gd_true, bnd_def, nI_leI, nI_ltI, nI_eq, nI_mI, mI_nI, nle_T, nle_F, nlt_T, nlt_F, neq_T, neq_F, ↓reduceIte, Nat.add_zero, Nat.zero_add, Nat.mul_zero, Nat.reduceAdd, Nat.reduceMul, Nat.reduceSub, ob1_e, ob2_e, ob3_e, ob4_e, ob6_e]
    · refine ⟨mI 1, lt, st, lt2, st2, ?_, ?_⟩
      · simp (disch := omega) only [f_X11_fits, b_X11_fits_54, b_X11_fits_23, b_X11_fits_0, hasGlove_y, hi, neg_nI, lit_nI, nI_add, pk_mul, pk_sub, nI_clamp, inB_nI, gd_true, bnd_def, nI_leI, nI_ltI, nI_eq, nI_mI, mI_nI, nle_T, nle_F, nlt_T, nlt_F, neq_T, neq_F, ↓reduceIte, Nat.add_zero, Nat.zero_add, Nat.mul_zero, Nat.reduceAdd, Nat.reduceMul, Nat.reduceSub, ob1_e, ob2_e, ob3_e, ob4_e, ob6_e]
      · simp (disch := omega) only [f_X12_fits, b_X12_fits_48, b_X12_fits_20, b_X12_fits_0, isGlove_y, hi, neg_nI, lit_nI, nI_add, pk_mul, pk_sub, nI_clamp, inB_nI, gd_true, bnd_def, nI_leI, nI_ltI, nI_eq, nI_mI, mI_nI, nle_T, nle_F, nlt_T, nlt_F, neq_T, neq_F, ↓reduceIte, Nat.add_zero, Nat.zero_add, Nat.mul_zero, Nat.reduceAdd, Nat.reduceMul, Nat.reduceSub, ob1_e, ob2_e, ob3_e, ob4_e, ob6_e]
  · refine ⟨mI 1, lt, st, lt2, st2, ?_, ?_⟩
    · simp (disch := omega) only [f_X11_fits, b_X11_fits_54, b_X11_fits_23, b_X11_fits_0, q1, neg_nI, lit_nI, nI_add, pk_mul, pk_sub, nI_clamp, inB_nI, gd_true, bnd_def, nI_leI, nI_ltI, nI_eq, nI_mI, mI_nI, nle_T, nle_F, nlt_T, nlt_F, neq_T, neq_F, ↓reduceIte, Nat.add_zero, Nat.zero_add, Nat.mul_zero, Nat.reduceAdd, Nat.reduceMul, Nat.reduceSub, ob1_e, ob2_e, ob3_e, ob4_e, ob6_e]
    · simp (disch := omega) only [f_X12_fits, b_X12_fits_48, b_X12_fits_20, b_X12_fits_0, q2, neg_nI, lit_nI, nI_add, pk_mul, pk_sub, nI_clamp, inB_nI, gd_true, bnd_def, nI_leI, nI_ltI, nI_eq, nI_mI, mI_nI, nle_T, nle_F, nlt_T, nlt_F, neq_T, neq_F, ↓reduceIte, Nat.add_zero, Nat.zero_add, Nat.mul_zero, Nat.reduceAdd, Nat.reduceMul, Nat.reduceSub, ob1_e, ob2_e, ob3_e, ob4_e, ob6_e]
/-- rises in bounds, by both -/
theorem noRise_or (v : Int32) : (f_X11_isNoRise v = some (nI 0) ∧ f_X12_in v (mI 9) (nI 9) = some (nI 1)) ∨ (f_X11_isNoRise v = some (nI 1) ∧ f_X12_in v (mI 9) (nI 9) = some (nI 0)) := by
  by_cases h1 : v < mI 9
  · refine Or.inr ⟨?_, in_lo h1⟩
    simp (disch := omega) only [f_X11_isNoRise, b_X11_isNoRise_12, b_X11_isNoRise_0, h1, neg_nI, lit_nI, nI_add, pk_mul, pk_sub, nI_clamp, inB_nI, gd_true, bnd_def, nI_leI, nI_ltI, nI_eq, nI_mI, mI_nI, nle_T, nle_F, nlt_T, nlt_F, neq_T, neq_F, ↓reduceIte, Nat.add_zero, Nat.zero_add, Nat.mul_zero, Nat.reduceAdd, Nat.reduceMul, Nat.reduceSub, ob1_e, ob2_e, ob3_e, ob4_e, ob6_e]
  · by_cases h2 : v ≤ nI 9
    · refine Or.inl ⟨?_, in_y h1 ?_⟩
      · simp (disch := omega) only [f_X11_isNoRise, b_X11_isNoRise_12, b_X11_isNoRise_0, h1, h2, neg_nI, lit_nI, nI_add, pk_mul, pk_sub, nI_clamp, inB_nI, gd_true, bnd_def, nI_leI, nI_ltI, nI_eq, nI_mI, mI_nI, nle_T, nle_F, nlt_T, nlt_F, neq_T, neq_F, ↓reduceIte, Nat.add_zero, Nat.zero_add, Nat.mul_zero, Nat.reduceAdd, Nat.reduceMul, Nat.reduceSub, ob1_e, ob2_e, ob3_e, ob4_e, ob6_e]
      · rw [le32] at h2
        rw [lt32]
        omega
    · refine Or.inr ⟨?_, in_hi ?_⟩
      · simp (disch := omega) only [f_X11_isNoRise, b_X11_isNoRise_12, b_X11_isNoRise_0, h1, h2, neg_nI, lit_nI, nI_add, pk_mul, pk_sub, nI_clamp, inB_nI, gd_true, bnd_def, nI_leI, nI_ltI, nI_eq, nI_mI, mI_nI, nle_T, nle_F, nlt_T, nlt_F, neq_T, neq_F, ↓reduceIte, Nat.add_zero, Nat.zero_add, Nat.mul_zero, Nat.reduceAdd, Nat.reduceMul, Nat.reduceSub, ob1_e, ob2_e, ob3_e, ob4_e, ob6_e]
      · rw [le32] at h2
        rw [lt32]
        omega
theorem s_seen (hG : G ≤ 6) (hh : ∀ g, g < G → mg (4 * g) = th g) (hS : RS G q s1 s2 s3 s4 n1 n2 n3 n4) (x y v w : Int32) : ∃ r q' s1' s2' s3' s4' n1' n2' n3' n4', f_X11_seen (nI G) th (nI q) s1 s2 s3 s4 x y v w = some (r, nI q', s1', s2', s3', s4') ∧ f_X12_seen (nI G) mg (nI q) n1 n2 n3 n4 x y v w = some (r, nI q', n1', n2', n3', n4') ∧ RS G q' s1' s2' s3' s4' n1' n2' n3' n4' := by
  have hq := hS.1
  rcases two_or x y (th := th) (mg := mg) hG hh with ⟨g, o, hg, ho, rfl, rfl, ht⟩ | ⟨q1, q2⟩
  · have g1 := hh g hg
    have g2 := hh o ho
    rcases noRise_or v with ⟨r1, r2⟩ | ⟨r1, r2⟩
    · by_cases h10 : q = 10
      · refine ⟨mI 1, q, s1, s2, s3, s4, n1, n2, n3, n4, ?_, ?_, hS⟩
        · simp (disch := omega) only [f_X11_seen, b_X11_seen_0, f_X8_isFull, b_X8_isFull_0, unlike_c, ht, r1, neg_nI, lit_nI, nI_add, pk_mul, pk_sub, nI_clamp, inB_nI, gd_true, bnd_def, nI_leI, nI_ltI, nI_eq, nI_mI, mI_nI, nle_T, nle_F, nlt_T, nlt_F, neq_T, neq_F, ↓reduceIte, Nat.add_zero, Nat.zero_add, Nat.mul_zero, Nat.reduceAdd, Nat.reduceMul, Nat.reduceSub, ob1_e, ob2_e, ob3_e, ob4_e, ob6_e]
        · simp (disch := omega) only [f_X12_seen, b_X12_seen_0, areTwo_c, g1, g2, ht, r2, neg_nI, lit_nI, nI_add, pk_mul, pk_sub, nI_clamp, inB_nI, gd_true, bnd_def, nI_leI, nI_ltI, nI_eq, nI_mI, mI_nI, nle_T, nle_F, nlt_T, nlt_F, neq_T, neq_F, ↓reduceIte, Nat.add_zero, Nat.zero_add, Nat.mul_zero, Nat.reduceAdd, Nat.reduceMul, Nat.reduceSub, ob1_e, ob2_e, ob3_e, ob4_e, ob6_e]
      · refine ⟨nI (q + 1), q + 1, upd s1 q (nI g), upd s2 q (nI o), upd s3 q v, upd s4 q (vp_nar .boolean w), upd n1 q (nI g), upd n2 q (nI o), upd n3 q v, upd n4 q (vp_nar .boolean w), ?_, ?_, by omega, fun i hi => ?_⟩
        · simp (disch := omega) only [f_X11_seen, b_X11_seen_0, f_X8_isFull, b_X8_isFull_0, f_X8_add, b_X8_add_0, unlike_c, ht, r1, ob5_e, neg_nI, lit_nI, nI_add, pk_mul, pk_sub, nI_clamp, inB_nI, gd_true, bnd_def, nI_leI, nI_ltI, nI_eq, nI_mI, mI_nI, nle_T, nle_F, nlt_T, nlt_F, neq_T, neq_F, ↓reduceIte, Nat.add_zero, Nat.zero_add, Nat.mul_zero, Nat.reduceAdd, Nat.reduceMul, Nat.reduceSub, ob1_e, ob2_e, ob3_e, ob4_e, ob6_e]
        · simp (disch := omega) only [f_X12_seen, b_X12_seen_0, areTwo_c, g1, g2, ht, r2, neg_nI, lit_nI, nI_add, pk_mul, pk_sub, nI_clamp, inB_nI, gd_true, bnd_def, nI_leI, nI_ltI, nI_eq, nI_mI, mI_nI, nle_T, nle_F, nlt_T, nlt_F, neq_T, neq_F, ↓reduceIte, Nat.add_zero, Nat.zero_add, Nat.mul_zero, Nat.reduceAdd, Nat.reduceMul, Nat.reduceSub, ob1_e, ob2_e, ob3_e, ob4_e, ob6_e]
        · by_cases e : i = q
          · rw [upd_y e, upd_y e, upd_y e, upd_y e, upd_y e, upd_y e, upd_y e, upd_y e]
            exact ⟨rfl, rfl, rfl, rfl, ⟨g, hg, rfl⟩, o, ho, rfl⟩
          · rw [upd_n e, upd_n e, upd_n e, upd_n e, upd_n e, upd_n e, upd_n e, upd_n e]
            exact hS.2 i (by omega)
    · refine ⟨mI 1, q, s1, s2, s3, s4, n1, n2, n3, n4, ?_, ?_, hS⟩
      · simp (disch := omega) only [f_X11_seen, b_X11_seen_0, unlike_c, ht, r1, neg_nI, lit_nI, nI_add, pk_mul, pk_sub, nI_clamp, inB_nI, gd_true, bnd_def, nI_leI, nI_ltI, nI_eq, nI_mI, mI_nI, nle_T, nle_F, nlt_T, nlt_F, neq_T, neq_F, ↓reduceIte, Nat.add_zero, Nat.zero_add, Nat.mul_zero, Nat.reduceAdd, Nat.reduceMul, Nat.reduceSub, ob1_e, ob2_e, ob3_e, ob4_e, ob6_e]
      · simp (disch := omega) only [f_X12_seen, b_X12_seen_0, areTwo_c, g1, g2, ht, r2, neg_nI, lit_nI, nI_add, pk_mul, pk_sub, nI_clamp, inB_nI, gd_true, bnd_def, nI_leI, nI_ltI, nI_eq, nI_mI, mI_nI, nle_T, nle_F, nlt_T, nlt_F, neq_T, neq_F, ↓reduceIte, Nat.add_zero, Nat.zero_add, Nat.mul_zero, Nat.reduceAdd, Nat.reduceMul, Nat.reduceSub, ob1_e, ob2_e, ob3_e, ob4_e, ob6_e]
  · refine ⟨mI 1, q, s1, s2, s3, s4, n1, n2, n3, n4, ?_, ?_, hS⟩
    · simp (disch := omega) only [f_X11_seen, b_X11_seen_0, q1, neg_nI, lit_nI, nI_add, pk_mul, pk_sub, nI_clamp, inB_nI, gd_true, bnd_def, nI_leI, nI_ltI, nI_eq, nI_mI, mI_nI, nle_T, nle_F, nlt_T, nlt_F, neq_T, neq_F, ↓reduceIte, Nat.add_zero, Nat.zero_add, Nat.mul_zero, Nat.reduceAdd, Nat.reduceMul, Nat.reduceSub, ob1_e, ob2_e, ob3_e, ob4_e, ob6_e]
    · simp (disch := omega) only [f_X12_seen, b_X12_seen_0, q2, neg_nI, lit_nI, nI_add, pk_mul, pk_sub, nI_clamp, inB_nI, gd_true, bnd_def, nI_leI, nI_ltI, nI_eq, nI_mI, mI_nI, nle_T, nle_F, nlt_T, nlt_F, neq_T, neq_F, ↓reduceIte, Nat.add_zero, Nat.zero_add, Nat.mul_zero, Nat.reduceAdd, Nat.reduceMul, Nat.reduceSub, ob1_e, ob2_e, ob3_e, ob4_e, ob6_e]
end SF
end
section
/-! ask -/
theorem bbF_none {p : Nat → Bool} : ∀ (j k : Nat) (v : Int32), (∀ i, k ≤ i → i < k + j → p i = false) → bbF p j k v = v
  | 0, _, _, _ => rfl
  | j + 1, k, v, h => by
    unfold bbF
    rw [h k (by omega) (by omega), if_neg Bool.false_ne_true]
    exact bbF_none j (k + 1) v (fun i h1 h2 => h i (by omega) (by omega))
theorem ftF_none {p : Nat → Bool} : ∀ (j k : Nat), k + j ≤ 100 → (ftF p (nI 0) j k (nI 0) = mI 1 ↔ ∀ i, k ≤ i → i < k + j → p i = false)
  | 0, k, _ => by
    have e : ¬ nI 0 = mI 1 := by decide
    unfold ftF
    rw [if_neg e]
    exact ⟨fun _ i h1 h2 => by omega, fun _ => rfl⟩
  | j + 1, k, h => by
    unfold ftF
    by_cases hp : p k = true
    · rw [if_pos hp, if_pos rfl, nI_mI ⟨by omega, by omega, by omega⟩]
      refine ⟨fun z => z.elim, fun z => ?_⟩
      rw [z k (by omega) (by omega)] at hp
      exact Bool.false_ne_true hp
    · rw [if_neg hp, ftF_none j (k + 1) (by omega)]
      refine ⟨fun z i h1 h2 => ?_, fun z i h1 h2 => z i (by omega) (by omega)⟩
      by_cases e : i = k
      · rw [e]
        exact Bool.eq_false_iff.mpr hp
      · exact z i (by omega) (by omega)
section SK
variable {R : R6} {lh : Int32} {ll l0 l1 l2 l3 : Nat → Int32} {mh : Int32} {mc mv mk mt ms mu : Nat → Int32}
variable {G q : Nat} {tp : Int32} {th tf ts ta mg mr s1 s2 s3 s4 n1 n2 n3 n4 : Nat → Int32}
theorem fitting_l (hX : RiseX R lh ll l0 l1 l2 l3) (hG : G ≤ 6) (hS : RS G q s1 s2 s3 s4 n1 n2 n3 n4) {g : Nat} (hg : g < G) : ∀ (j k n : Nat) (lt st : Nat → Int32) (v : Int32), k + j = 10 → j < n → ∃ lt' st', f_X8_fitting_4 tp tf ts ta lh ll l0 l1 l2 l3 (nI q) s1 s2 s3 s4 n lt st (nI g) v (nI k) = some (bbF (pF R tp tf ts ta s1 s2 s3 s4 q g) j k v, lt', st') := by
  intro j
  induction j with
  | zero =>
    intro k n lt st v hk h1
    obtain ⟨n, rfl⟩ : ∃ q, n = q + 1 := ⟨n - 1, by omega⟩
    exact ⟨lt, st, by simp (disch := omega) only [f_X8_fitting_4, f_X8_fitting, b_X8_fitting_25, b_X8_fitting_4, b_X8_fitting_0, bbF, neg_nI, lit_nI, nI_add, pk_mul, pk_sub, nI_clamp, inB_nI, gd_true, bnd_def, nI_leI, nI_ltI, nI_eq, nI_mI, mI_nI, nle_T, nle_F, nlt_T, nlt_F, neq_T, neq_F, ↓reduceIte, Nat.add_zero, Nat.zero_add, Nat.mul_zero, Nat.reduceAdd, Nat.reduceMul, Nat.reduceSub, ob1_e, ob2_e, ob3_e, ob4_e, ob6_e]⟩
  | succ j ih =>
    intro k n lt st v hk h1
    obtain ⟨n, rfl⟩ : ∃ q, n = q + 1 := ⟨n - 1, by omega⟩
    obtain ⟨lt1, st1, e⟩ := allow_c (R := R) (tp := tp) (tf := tf) (ts := ts) (ta := ta) hX hG hS (k := k) hg lt st
    cases hp : pF R tp tf ts ta s1 s2 s3 s4 q g k with
    | true =>
      rw [hp] at e
      obtain ⟨lt2, st2, e2⟩ := ih (k + 1) n lt1 st1 (v ||| ((1 : Int32) <<< (nI k &&& nI 31))) (by omega) (by omega)
      refine ⟨lt2, st2, ?_⟩
      have e3 : bbF (pF R tp tf ts ta s1 s2 s3 s4 q g) (j + 1) k v = bbF (pF R tp tf ts ta s1 s2 s3 s4 q g) j (k + 1) (v ||| ((1 : Int32) <<< (nI k &&& nI 31))) := by rw [bbF, if_pos hp]
      rw [e3, ← e2]
      simp (disch := omega) only [f_X8_fitting_4, f_X8_fitting, b_X8_fitting_25, b_X8_fitting_4, b_X8_fitting_0, e, bz_t, neg_nI, lit_nI, nI_add, pk_mul, pk_sub, nI_clamp, inB_nI, gd_true, bnd_def, nI_leI, nI_ltI, nI_eq, nI_mI, mI_nI, nle_T, nle_F, nlt_T, nlt_F, neq_T, neq_F, ↓reduceIte, Nat.add_zero, Nat.zero_add, Nat.mul_zero, Nat.reduceAdd, Nat.reduceMul, Nat.reduceSub, ob1_e, ob2_e, ob3_e, ob4_e, ob6_e]
    | false =>
      rw [hp] at e
      obtain ⟨lt2, st2, e2⟩ := ih (k + 1) n lt1 st1 v (by omega) (by omega)
      refine ⟨lt2, st2, ?_⟩
      simp (disch := omega) only [f_X8_fitting_4, f_X8_fitting, b_X8_fitting_25, b_X8_fitting_4, b_X8_fitting_0, bbF, e, bz_f, hp, e2, Bool.false_eq_true, neg_nI, lit_nI, nI_add, pk_mul, pk_sub, nI_clamp, inB_nI, gd_true, bnd_def, nI_leI, nI_ltI, nI_eq, nI_mI, mI_nI, nle_T, nle_F, nlt_T, nlt_F, neq_T, neq_F, ↓reduceIte, Nat.add_zero, Nat.zero_add, Nat.mul_zero, Nat.reduceAdd, Nat.reduceMul, Nat.reduceSub, ob1_e, ob2_e, ob3_e, ob4_e, ob6_e]
theorem gapX_l (hX : RiseX R lh ll l0 l1 l2 l3) {p : Nat → Bool} {fit v : Int32} (hb : ∀ i, i < 10 → bt fit i = p i) {g o : Nat} (h : g < 6 ∧ o < 6) : ∀ (j k n : Nat) (lt st : Nat → Int32) (x : Int32), k + j = 10 → j < n → ∃ lt' st', f_X8_gap_6 tp tf ts ta lh ll l0 l1 l2 l3 n lt st (nI g) (nI o) v fit x (nI k) = some (ab (gpF p (fun f => tr R tp tf ts ta g o (nI f)) v j k x), lt', st') := by
  intro j
  induction j with
  | zero =>
    intro k n lt st x hk h1
    obtain ⟨n, rfl⟩ : ∃ q, n = q + 1 := ⟨n - 1, by omega⟩
    exact ⟨lt, st, by simp (disch := omega) only [f_X8_gap_6, f_X8_gap, b_X8_gap_46, b_X8_gap_43, b_X8_gap_6, b_X8_gap_0, gpF, neg_nI, lit_nI, nI_add, pk_mul, pk_sub, nI_clamp, inB_nI, gd_true, bnd_def, nI_leI, nI_ltI, nI_eq, nI_mI, mI_nI, nle_T, nle_F, nlt_T, nlt_F, neq_T, neq_F, ↓reduceIte, Nat.add_zero, Nat.zero_add, Nat.mul_zero, Nat.reduceAdd, Nat.reduceMul, Nat.reduceSub, ob1_e, ob2_e, ob3_e, ob4_e, ob6_e]⟩
  | succ j ih =>
    intro k n lt st x hk h1
    obtain ⟨n, rfl⟩ : ∃ q, n = q + 1 := ⟨n - 1, by omega⟩
    have hbk := hb k (by omega)
    cases hp : p k with
    | true =>
      rw [hp] at hbk
      obtain ⟨lt1, st1, e⟩ := reaches_c (R := R) (tp := tp) (tf := tf) (ts := ts) (ta := ta) hX (lt := lt) (st := st) (g := g) (o := o) (f := nI k) (v := v) h
      by_cases ht : tr R tp tf ts ta g o (nI k) < v
      · rw [if_pos ht] at e
        obtain ⟨lt2, st2, e2⟩ := ih (k + 1) n lt1 st1 (x + mI 1) (by omega) (by omega)
        refine ⟨lt2, st2, ?_⟩
        simp (disch := omega) only [f_X8_gap_6, f_X8_gap, b_X8_gap_46, b_X8_gap_43, b_X8_gap_6, b_X8_gap_0, gpF, bit1, hbk, hp, e, ht, e2, neg_nI, lit_nI, nI_add, pk_mul, pk_sub, nI_clamp, inB_nI, gd_true, bnd_def, nI_leI, nI_ltI, nI_eq, nI_mI, mI_nI, nle_T, nle_F, nlt_T, nlt_F, neq_T, neq_F, ↓reduceIte, Nat.add_zero, Nat.zero_add, Nat.mul_zero, Nat.reduceAdd, Nat.reduceMul, Nat.reduceSub, ob1_e, ob2_e, ob3_e, ob4_e, ob6_e]
      · rw [if_neg ht] at e
        obtain ⟨lt2, st2, e2⟩ := ih (k + 1) n lt1 st1 (x + nI 1) (by omega) (by omega)
        refine ⟨lt2, st2, ?_⟩
        simp (disch := omega) only [f_X8_gap_6, f_X8_gap, b_X8_gap_46, b_X8_gap_43, b_X8_gap_6, b_X8_gap_0, gpF, bit1, hbk, hp, e, ht, e2, neg_nI, lit_nI, nI_add, pk_mul, pk_sub, nI_clamp, inB_nI, gd_true, bnd_def, nI_leI, nI_ltI, nI_eq, nI_mI, mI_nI, nle_T, nle_F, nlt_T, nlt_F, neq_T, neq_F, ↓reduceIte, Nat.add_zero, Nat.zero_add, Nat.mul_zero, Nat.reduceAdd, Nat.reduceMul, Nat.reduceSub, ob1_e, ob2_e, ob3_e, ob4_e, ob6_e]
    | false =>
      rw [hp] at hbk
      obtain ⟨lt2, st2, e2⟩ := ih (k + 1) n lt st x (by omega) (by omega)
      refine ⟨lt2, st2, ?_⟩
      simp (disch := omega) only [f_X8_gap_6, f_X8_gap, b_X8_gap_46, b_X8_gap_43, b_X8_gap_6, b_X8_gap_0, gpF, bit1, hbk, hp, e2, Bool.false_eq_true, neg_nI, lit_nI, nI_add, pk_mul, pk_sub, nI_clamp, inB_nI, gd_true, bnd_def, nI_leI, nI_ltI, nI_eq, nI_mI, mI_nI, nle_T, nle_F, nlt_T, nlt_F, neq_T, neq_F, ↓reduceIte, Nat.add_zero, Nat.zero_add, Nat.mul_zero, Nat.reduceAdd, Nat.reduceMul, Nat.reduceSub, ob1_e, ob2_e, ob3_e, ob4_e, ob6_e]
theorem askY_in (hY : RiseY R mh mc mv mk mt ms mu) (hG : G ≤ 6) (hh : ∀ g, g < G → mg (4 * g) = th g) (hf : ∀ g, g < G → mg (4 * g + 1) = tf g) (hs : ∀ g, g < G → mg (4 * g + 2) = ts g) (ha : ∀ g, g < G → mg (4 * g + 3) = ta g) (hpp : mr 0 = tp) (hS : RS G q s1 s2 s3 s4 n1 n2 n3 n4) {g o : Nat} (hg : g < G) (ho : o < G) (ht : ¬ th g = th o) {v best least : Int32} {k39 : (Nat → Int32) → (Nat → Int32) → Int32 → Int32 → Int32 → Int32 → Int32 → Option (Int32 × (Nat → Int32) × (Nat → Int32))} : ∀ (j k n : Nat) (lt st : Nat → Int32) (x : Int32), k + j = 10 → j < n → ∃ lt' st', f_X12_ask_54 (nI G) mh (nI q) mc mv mk mt ms mu mr mg n1 n2 n3 n4 k39 n lt st (nI g) v best least (nI o) x (nI k) = (if best = mI 1 ∨ ¬ least ≤ ab (gpF (pF R tp tf ts ta s1 s2 s3 s4 q g) (fun f => tr R tp tf ts ta g o (nI f)) v j k x) then k39 lt' st' (nI g) v (nI o) (ab (gpF (pF R tp tf ts ta s1 s2 s3 s4 q g) (fun f => tr R tp tf ts ta g o (nI f)) v j k x)) (nI (o + 1)) else k39 lt' st' (nI g) v best least (nI (o + 1))) := by
  have g1 := hh g hg
  have g2 := hh o ho
  intro j
  induction j with
  | zero =>
    intro k n lt st x hk h1
    obtain ⟨n, rfl⟩ : ∃ q, n = q + 1 := ⟨n - 1, by omega⟩
    refine ⟨lt, st, ?_⟩
    show _ = (if best = mI 1 ∨ ¬ least ≤ ab x then k39 lt st (nI g) v (nI o) (ab x) (nI (o + 1)) else k39 lt st (nI g) v best least (nI (o + 1)))
    by_cases hb : best = mI 1
    · rw [if_pos (Or.inl hb)]
      simp (disch := omega) only [f_X12_ask_54, f_X12_ask, b_X12_ask_105, b_X12_ask_83, b_X12_ask_149, b_X12_ask_139, b_X12_ask_54, b_X12_ask_39, b_X12_ask_0, areTwo_c, g1, g2, ht, hb, neg_nI, lit_nI, nI_add, pk_mul, pk_sub, nI_clamp, inB_nI, gd_true, bnd_def, nI_leI, nI_ltI, nI_eq, nI_mI, mI_nI, nle_T, nle_F, nlt_T, nlt_F, neq_T, neq_F, ↓reduceIte, Nat.add_zero, Nat.zero_add, Nat.mul_zero, Nat.reduceAdd, Nat.reduceMul, Nat.reduceSub, ob1_e, ob2_e, ob3_e, ob4_e, ob6_e]
    · by_cases hl : least ≤ ab x
      · rw [if_neg (fun z => z.elim hb (fun y => y hl))]
        simp (disch := omega) only [f_X12_ask_54, f_X12_ask, b_X12_ask_105, b_X12_ask_83, b_X12_ask_149, b_X12_ask_139, b_X12_ask_54, b_X12_ask_39, b_X12_ask_0, areTwo_c, g1, g2, ht, hb, hl, neg_nI, lit_nI, nI_add, pk_mul, pk_sub, nI_clamp, inB_nI, gd_true, bnd_def, nI_leI, nI_ltI, nI_eq, nI_mI, mI_nI, nle_T, nle_F, nlt_T, nlt_F, neq_T, neq_F, ↓reduceIte, Nat.add_zero, Nat.zero_add, Nat.mul_zero, Nat.reduceAdd, Nat.reduceMul, Nat.reduceSub, ob1_e, ob2_e, ob3_e, ob4_e, ob6_e]
      · rw [if_pos (Or.inr hl)]
        simp (disch := omega) only [f_X12_ask_54, f_X12_ask, b_X12_ask_105, b_X12_ask_83, b_X12_ask_149, b_X12_ask_139, b_X12_ask_54, b_X12_ask_39, b_X12_ask_0, areTwo_c, g1, g2, ht, hb, hl, neg_nI, lit_nI, nI_add, pk_mul, pk_sub, nI_clamp, inB_nI, gd_true, bnd_def, nI_leI, nI_ltI, nI_eq, nI_mI, mI_nI, nle_T, nle_F, nlt_T, nlt_F, neq_T, neq_F, ↓reduceIte, Nat.add_zero, Nat.zero_add, Nat.mul_zero, Nat.reduceAdd, Nat.reduceMul, Nat.reduceSub, ob1_e, ob2_e, ob3_e, ob4_e, ob6_e]
  | succ j ih =>
    intro k n lt st x hk h1
    obtain ⟨n, rfl⟩ : ∃ q, n = q + 1 := ⟨n - 1, by omega⟩
    have x0 : x + nI 0 = x := Int32.add_zero x
    obtain ⟨lt1, st1, e⟩ := freedom_c (R := R) (tp := tp) (tf := tf) (ts := ts) (ta := ta) hY hG hf hs ha hpp hS (k := k) hg lt st
    cases hp : pF R tp tf ts ta s1 s2 s3 s4 q g k with
    | true =>
      rw [hp] at e
      obtain ⟨lt2, st2, e2⟩ := toldRise_c (R := R) (tp := tp) (tf := tf) (ts := ts) (ta := ta) hY hG hf hs ha hpp (lt := lt1) (st := st1) (g := g) (o := o) (f := nI k) hg ho
      by_cases hv : tr R tp tf ts ta g o (nI k) < v
      · obtain ⟨lt3, st3, e3⟩ := ih (k + 1) n lt2 st2 (x + mI 1) (by omega) (by omega)
        have e4 : gpF (pF R tp tf ts ta s1 s2 s3 s4 q g) (fun f => tr R tp tf ts ta g o (nI f)) v (j + 1) k x = gpF (pF R tp tf ts ta s1 s2 s3 s4 q g) (fun f => tr R tp tf ts ta g o (nI f)) v j (k + 1) (x + mI 1) := by rw [gpF, if_pos hp, if_pos hv]
        refine ⟨lt3, st3, ?_⟩
        rw [e4, ← e3]
        simp (disch := omega) only [f_X12_ask_54, f_X12_ask, b_X12_ask_105, b_X12_ask_83, b_X12_ask_149, b_X12_ask_139, b_X12_ask_54, b_X12_ask_39, b_X12_ask_0, areTwo_c, g1, g2, ht, e, bz_t, e2, hv, neg_nI, lit_nI, nI_add, pk_mul, pk_sub, nI_clamp, inB_nI, gd_true, bnd_def, nI_leI, nI_ltI, nI_eq, nI_mI, mI_nI, nle_T, nle_F, nlt_T, nlt_F, neq_T, neq_F, ↓reduceIte, Nat.add_zero, Nat.zero_add, Nat.mul_zero, Nat.reduceAdd, Nat.reduceMul, Nat.reduceSub, ob1_e, ob2_e, ob3_e, ob4_e, ob6_e]
      · obtain ⟨lt3, st3, e3⟩ := ih (k + 1) n lt2 st2 (x + nI 1) (by omega) (by omega)
        have e4 : gpF (pF R tp tf ts ta s1 s2 s3 s4 q g) (fun f => tr R tp tf ts ta g o (nI f)) v (j + 1) k x = gpF (pF R tp tf ts ta s1 s2 s3 s4 q g) (fun f => tr R tp tf ts ta g o (nI f)) v j (k + 1) (x + nI 1) := by rw [gpF, if_pos hp, if_neg hv]
        refine ⟨lt3, st3, ?_⟩
        rw [e4, ← e3]
        simp (disch := omega) only [f_X12_ask_54, f_X12_ask, b_X12_ask_105, b_X12_ask_83, b_X12_ask_149, b_X12_ask_139, b_X12_ask_54, b_X12_ask_39, b_X12_ask_0, areTwo_c, g1, g2, ht, e, bz_t, e2, hv, neg_nI, lit_nI, nI_add, pk_mul, pk_sub, nI_clamp, inB_nI, gd_true, bnd_def, nI_leI, nI_ltI, nI_eq, nI_mI, mI_nI, nle_T, nle_F, nlt_T, nlt_F, neq_T, neq_F, ↓reduceIte, Nat.add_zero, Nat.zero_add, Nat.mul_zero, Nat.reduceAdd, Nat.reduceMul, Nat.reduceSub, ob1_e, ob2_e, ob3_e, ob4_e, ob6_e]
    | false =>
      rw [hp] at e
      obtain ⟨lt3, st3, e3⟩ := ih (k + 1) n lt1 st1 x (by omega) (by omega)
      have e4 : gpF (pF R tp tf ts ta s1 s2 s3 s4 q g) (fun f => tr R tp tf ts ta g o (nI f)) v (j + 1) k x = gpF (pF R tp tf ts ta s1 s2 s3 s4 q g) (fun f => tr R tp tf ts ta g o (nI f)) v j (k + 1) x := by rw [gpF, hp, if_neg Bool.false_ne_true]
      refine ⟨lt3, st3, ?_⟩
      rw [e4, ← e3]
      simp (disch := omega) only [f_X12_ask_54, f_X12_ask, b_X12_ask_105, b_X12_ask_83, b_X12_ask_149, b_X12_ask_139, b_X12_ask_54, b_X12_ask_39, b_X12_ask_0, areTwo_c, g1, g2, ht, e, bz_f, x0, neg_nI, lit_nI, nI_add, pk_mul, pk_sub, nI_clamp, inB_nI, gd_true, bnd_def, nI_leI, nI_ltI, nI_eq, nI_mI, mI_nI, nle_T, nle_F, nlt_T, nlt_F, neq_T, neq_F, ↓reduceIte, Nat.add_zero, Nat.zero_add, Nat.mul_zero, Nat.reduceAdd, Nat.reduceMul, Nat.reduceSub, ob1_e, ob2_e, ob3_e, ob4_e, ob6_e]
theorem askY_no (hG : G ≤ 6) (hh : ∀ g, g < G → mg (4 * g) = th g) {g o : Nat} (hg : g < G) (ho : o < G) (ht : th g = th o) {v best least : Int32} {k39 : (Nat → Int32) → (Nat → Int32) → Int32 → Int32 → Int32 → Int32 → Int32 → Option (Int32 × (Nat → Int32) × (Nat → Int32))} : ∀ (j k n : Nat) (lt st : Nat → Int32) (x : Int32), k + j = 10 → j < n → f_X12_ask_54 (nI G) mh (nI q) mc mv mk mt ms mu mr mg n1 n2 n3 n4 k39 n lt st (nI g) v best least (nI o) x (nI k) = k39 lt st (nI g) v best least (nI (o + 1)) := by
  have g1 := hh g hg
  have g2 := hh o ho
  intro j
  induction j with
  | zero =>
    intro k n lt st x hk h1
    obtain ⟨n, rfl⟩ : ∃ q, n = q + 1 := ⟨n - 1, by omega⟩
    simp (disch := omega) only [f_X12_ask_54, f_X12_ask, b_X12_ask_105, b_X12_ask_83, b_X12_ask_149, b_X12_ask_139, b_X12_ask_54, b_X12_ask_39, b_X12_ask_0, areTwo_c, g1, g2, ht, neg_nI, lit_nI, nI_add, pk_mul, pk_sub, nI_clamp, inB_nI, gd_true, bnd_def, nI_leI, nI_ltI, nI_eq, nI_mI, mI_nI, nle_T, nle_F, nlt_T, nlt_F, neq_T, neq_F, ↓reduceIte, Nat.add_zero, Nat.zero_add, Nat.mul_zero, Nat.reduceAdd, Nat.reduceMul, Nat.reduceSub, ob1_e, ob2_e, ob3_e, ob4_e, ob6_e]
  | succ j ih =>
    intro k n lt st x hk h1
    obtain ⟨n, rfl⟩ : ∃ q, n = q + 1 := ⟨n - 1, by omega⟩
    have x0 : x + nI 0 = x := Int32.add_zero x
    rw [← ih (k + 1) n lt st x (by omega) (by omega)]
    simp (disch := omega) only [f_X12_ask_54, f_X12_ask, b_X12_ask_105, b_X12_ask_83, b_X12_ask_149, b_X12_ask_139, b_X12_ask_54, b_X12_ask_39, b_X12_ask_0, areTwo_c, g1, g2, ht, x0, neg_nI, lit_nI, nI_add, pk_mul, pk_sub, nI_clamp, inB_nI, gd_true, bnd_def, nI_leI, nI_ltI, nI_eq, nI_mI, mI_nI, nle_T, nle_F, nlt_T, nlt_F, neq_T, neq_F, ↓reduceIte, Nat.add_zero, Nat.zero_add, Nat.mul_zero, Nat.reduceAdd, Nat.reduceMul, Nat.reduceSub, ob1_e, ob2_e, ob3_e, ob4_e, ob6_e]
def AK (bx lx by' ly : Int32) : Prop := (bx = mI 1 ∧ by' = mI 1 ∧ lx = nI 11) ∨ (∃ b, b < 6 ∧ bx = nI b ∧ by' = nI b ∧ lx = ly)
theorem ask_l (hX : RiseX R lh ll l0 l1 l2 l3) (hY : RiseY R mh mc mv mk mt ms mu) (hG : G ≤ 6) (hh : ∀ g, g < G → mg (4 * g) = th g) (hf : ∀ g, g < G → mg (4 * g + 1) = tf g) (hs : ∀ g, g < G → mg (4 * g + 2) = ts g) (ha : ∀ g, g < G → mg (4 * g + 3) = ta g) (hpp : mr 0 = tp) (hS : RS G q s1 s2 s3 s4 n1 n2 n3 n4) {g : Nat} (hg : g < G) {v fit : Int32} (hb : ∀ i, i < 10 → bt fit i = pF R tp tf ts ta s1 s2 s3 s4 q g i) : ∀ (j k n n' : Nat) (lt st lt2 st2 : Nat → Int32) (bx lx by' ly : Int32), k + j = G → j < n → j < n' → AK bx lx by' ly → ∃ r lt' st' lt2' st2', f_X11_ask_45 (nI G) tp th tf ts ta lh ll l0 l1 l2 l3 (nI q) s1 s2 s3 s4 n lt st (nI g) v fit bx lx (nI k) = some (r, lt', st') ∧ f_X12_ask_39 (nI G) mh (nI q) mc mv mk mt ms mu mr mg n1 n2 n3 n4 n' lt2 st2 (nI g) v by' ly (nI k) = some (r, lt2', st2') := by
  intro j
  induction j with
  | zero =>
    intro k n n' lt st lt2 st2 bx lx by' ly hk h1 h2 hA
    obtain ⟨n, rfl⟩ : ∃ q, n = q + 1 := ⟨n - 1, by omega⟩
    obtain ⟨n', rfl⟩ : ∃ q, n' = q + 1 := ⟨n' - 1, by omega⟩
    have eb : bx = by' := by
      rcases hA with ⟨a, b, -⟩ | ⟨b, -, a1, a2, -⟩
      · rw [a, b]
      · rw [a1, a2]
    subst eb
    refine ⟨bx, lt, st, lt2, st2, ?_, ?_⟩
    · simp (disch := omega) only [f_X11_ask_45, f_X11_ask, b_X11_ask_104, b_X11_ask_87, b_X11_ask_45, b_X11_ask_0, neg_nI, lit_nI, nI_add, pk_mul, pk_sub, nI_clamp, inB_nI, gd_true, bnd_def, nI_leI, nI_ltI, nI_eq, nI_mI, mI_nI, nle_T, nle_F, nlt_T, nlt_F, neq_T, neq_F, ↓reduceIte, Nat.add_zero, Nat.zero_add, Nat.mul_zero, Nat.reduceAdd, Nat.reduceMul, Nat.reduceSub, ob1_e, ob2_e, ob3_e, ob4_e, ob6_e]
    · simp (disch := omega) only [f_X12_ask_39, b_X12_ask_39, neg_nI, lit_nI, nI_add, pk_mul, pk_sub, nI_clamp, inB_nI, gd_true, bnd_def, nI_leI, nI_ltI, nI_eq, nI_mI, mI_nI, nle_T, nle_F, nlt_T, nlt_F, neq_T, neq_F, ↓reduceIte, Nat.add_zero, Nat.zero_add, Nat.mul_zero, Nat.reduceAdd, Nat.reduceMul, Nat.reduceSub, ob1_e, ob2_e, ob3_e, ob4_e, ob6_e]
  | succ j ih =>
    intro k n n' lt st lt2 st2 bx lx by' ly hk h1 h2 hA
    obtain ⟨n, rfl⟩ : ∃ q, n = q + 1 := ⟨n - 1, by omega⟩
    obtain ⟨n', rfl⟩ : ∃ q, n' = q + 1 := ⟨n' - 1, by omega⟩
    by_cases ht : th g = th k
    · have y1 := askY_no (mh := mh) (q := q) (mc := mc) (mv := mv) (mk := mk) (mt := mt) (ms := ms) (mu := mu) (mr := mr) (n1 := n1) (n2 := n2) (n3 := n3) (n4 := n4) hG hh hg (show k < G by omega) ht (v := v) (best := by') (least := ly) (k39 := f_X12_ask_39 (nI G) mh (nI q) mc mv mk mt ms mu mr mg n1 n2 n3 n4 n') 10 0 fu lt2 st2 (nI 0) (by omega) (by have := fu_le; omega)
      obtain ⟨r, lt', st', lt2', st2', e1, e2⟩ := ih (k + 1) n n' lt st lt2 st2 bx lx by' ly (by omega) (by omega) (by omega) hA
      have lrefl : lx ≤ lx := by rw [le32]; omega
      refine ⟨r, lt', st', lt2', st2', ?_, ?_⟩
      · rw [← e1]
        simp (disch := omega) only [f_X11_ask_45, f_X11_ask, b_X11_ask_104, b_X11_ask_87, b_X11_ask_45, b_X11_ask_0, unlike_c, ht, lrefl, neg_nI, lit_nI, nI_add, pk_mul, pk_sub, nI_clamp, inB_nI, gd_true, bnd_def, nI_leI, nI_ltI, nI_eq, nI_mI, mI_nI, nle_T, nle_F, nlt_T, nlt_F, neq_T, neq_F, ↓reduceIte, Nat.add_zero, Nat.zero_add, Nat.mul_zero, Nat.reduceAdd, Nat.reduceMul, Nat.reduceSub, ob1_e, ob2_e, ob3_e, ob4_e, ob6_e]
      · rw [← e2, ← y1]
        simp (disch := omega) only [f_X12_ask_39, b_X12_ask_39, neg_nI, lit_nI, nI_add, pk_mul, pk_sub, nI_clamp, inB_nI, gd_true, bnd_def, nI_leI, nI_ltI, nI_eq, nI_mI, mI_nI, nle_T, nle_F, nlt_T, nlt_F, neq_T, neq_F, ↓reduceIte, Nat.add_zero, Nat.zero_add, Nat.mul_zero, Nat.reduceAdd, Nat.reduceMul, Nat.reduceSub, ob1_e, ob2_e, ob3_e, ob4_e, ob6_e]
    · obtain ⟨lt1, st1, x1⟩ := gapX_l (R := R) (tp := tp) (tf := tf) (ts := ts) (ta := ta) hX (v := v) hb (g := g) (o := k) ⟨by omega, by omega⟩ 10 0 fu lt st (nI 0) (by omega) (by have := fu_le; omega)
      obtain ⟨lt3, st3, y1⟩ := askY_in (R := R) (th := th) (tp := tp) (tf := tf) (ts := ts) (ta := ta) hY hG hh hf hs ha hpp hS hg (show k < G by omega) ht (v := v) (best := by') (least := ly) (k39 := f_X12_ask_39 (nI G) mh (nI q) mc mv mk mt ms mu mr mg n1 n2 n3 n4 n') 10 0 fu lt2 st2 (nI 0) (by omega) (by have := fu_le; omega)
      have gb := gpF_b (p := pF R tp tf ts ta s1 s2 s3 s4 q g) (t := fun f => tr R tp tf ts ta g k (nI f)) (v := v) 10 0 (nI 0) 0 (by omega) (by decide) (by decide)
      have xg : f_X8_gap tp tf ts ta lh ll l0 l1 l2 l3 lt st (nI g) (nI k) v fit = some (ab (gpF (pF R tp tf ts ta s1 s2 s3 s4 q g) (fun f => tr R tp tf ts ta g k (nI f)) v 10 0 (nI 0)), lt1, st1) := x1
      have l11 := ab_lt (x := gpF (pF R tp tf ts ta s1 s2 s3 s4 q g) (fun f => tr R tp tf ts ta g k (nI f)) v 10 0 (nI 0)) (by omega) (by omega)
      generalize hX0 : ab (gpF (pF R tp tf ts ta s1 s2 s3 s4 q g) (fun f => tr R tp tf ts ta g k (nI f)) v 10 0 (nI 0)) = X at *
      rcases hA with ⟨rfl, rfl, rfl⟩ | ⟨b, hb6, rfl, rfl, rfl⟩
      · obtain ⟨r, lt', st', lt2', st2', e1, e2⟩ := ih (k + 1) n n' lt1 st1 lt3 st3 (nI k) X (nI k) X (by omega) (by omega) (by omega) (Or.inr ⟨k, by omega, rfl, rfl, rfl⟩)
        refine ⟨r, lt', st', lt2', st2', ?_, ?_⟩
        · rw [← e1]
          simp (disch := omega) only [f_X11_ask_45, f_X11_ask, b_X11_ask_104, b_X11_ask_87, b_X11_ask_45, b_X11_ask_0, unlike_c, ht, xg, l11, neg_nI, lit_nI, nI_add, pk_mul, pk_sub, nI_clamp, inB_nI, gd_true, bnd_def, nI_leI, nI_ltI, nI_eq, nI_mI, mI_nI, nle_T, nle_F, nlt_T, nlt_F, neq_T, neq_F, ↓reduceIte, Nat.add_zero, Nat.zero_add, Nat.mul_zero, Nat.reduceAdd, Nat.reduceMul, Nat.reduceSub, ob1_e, ob2_e, ob3_e, ob4_e, ob6_e]
        · rw [if_pos (Or.inl rfl)] at y1
          rw [← e2, ← y1]
          simp (disch := omega) only [f_X12_ask_39, b_X12_ask_39, neg_nI, lit_nI, nI_add, pk_mul, pk_sub, nI_clamp, inB_nI, gd_true, bnd_def, nI_leI, nI_ltI, nI_eq, nI_mI, mI_nI, nle_T, nle_F, nlt_T, nlt_F, neq_T, neq_F, ↓reduceIte, Nat.add_zero, Nat.zero_add, Nat.mul_zero, Nat.reduceAdd, Nat.reduceMul, Nat.reduceSub, ob1_e, ob2_e, ob3_e, ob4_e, ob6_e]
      · by_cases hl : lx ≤ X
        · obtain ⟨r, lt', st', lt2', st2', e1, e2⟩ := ih (k + 1) n n' lt1 st1 lt3 st3 (nI b) lx (nI b) lx (by omega) (by omega) (by omega) (Or.inr ⟨b, hb6, rfl, rfl, rfl⟩)
          refine ⟨r, lt', st', lt2', st2', ?_, ?_⟩
          · rw [← e1]
            simp (disch := omega) only [f_X11_ask_45, f_X11_ask, b_X11_ask_104, b_X11_ask_87, b_X11_ask_45, b_X11_ask_0, unlike_c, ht, xg, hl, neg_nI, lit_nI, nI_add, pk_mul, pk_sub, nI_clamp, inB_nI, gd_true, bnd_def, nI_leI, nI_ltI, nI_eq, nI_mI, mI_nI, nle_T, nle_F, nlt_T, nlt_F, neq_T, neq_F, ↓reduceIte, Nat.add_zero, Nat.zero_add, Nat.mul_zero, Nat.reduceAdd, Nat.reduceMul, Nat.reduceSub, ob1_e, ob2_e, ob3_e, ob4_e, ob6_e]
          · rw [if_neg (fun z => z.elim (fun y => by rw [nI_mI ⟨by omega, by omega, by omega⟩] at y; exact y) (fun y => y hl))] at y1
            rw [← e2, ← y1]
            simp (disch := omega) only [f_X12_ask_39, b_X12_ask_39, neg_nI, lit_nI, nI_add, pk_mul, pk_sub, nI_clamp, inB_nI, gd_true, bnd_def, nI_leI, nI_ltI, nI_eq, nI_mI, mI_nI, nle_T, nle_F, nlt_T, nlt_F, neq_T, neq_F, ↓reduceIte, Nat.add_zero, Nat.zero_add, Nat.mul_zero, Nat.reduceAdd, Nat.reduceMul, Nat.reduceSub, ob1_e, ob2_e, ob3_e, ob4_e, ob6_e]
        · obtain ⟨r, lt', st', lt2', st2', e1, e2⟩ := ih (k + 1) n n' lt1 st1 lt3 st3 (nI k) X (nI k) X (by omega) (by omega) (by omega) (Or.inr ⟨k, by omega, rfl, rfl, rfl⟩)
          refine ⟨r, lt', st', lt2', st2', ?_, ?_⟩
          · rw [← e1]
            simp (disch := omega) only [f_X11_ask_45, f_X11_ask, b_X11_ask_104, b_X11_ask_87, b_X11_ask_45, b_X11_ask_0, unlike_c, ht, xg, hl, neg_nI, lit_nI, nI_add, pk_mul, pk_sub, nI_clamp, inB_nI, gd_true, bnd_def, nI_leI, nI_ltI, nI_eq, nI_mI, mI_nI, nle_T, nle_F, nlt_T, nlt_F, neq_T, neq_F, ↓reduceIte, Nat.add_zero, Nat.zero_add, Nat.mul_zero, Nat.reduceAdd, Nat.reduceMul, Nat.reduceSub, ob1_e, ob2_e, ob3_e, ob4_e, ob6_e]
          · rw [if_pos (Or.inr hl)] at y1
            rw [← e2, ← y1]
            simp (disch := omega) only [f_X12_ask_39, b_X12_ask_39, neg_nI, lit_nI, nI_add, pk_mul, pk_sub, nI_clamp, inB_nI, gd_true, bnd_def, nI_leI, nI_ltI, nI_eq, nI_mI, mI_nI, nle_T, nle_F, nlt_T, nlt_F, neq_T, neq_F, ↓reduceIte, Nat.add_zero, Nat.zero_add, Nat.mul_zero, Nat.reduceAdd, Nat.reduceMul, Nat.reduceSub, ob1_e, ob2_e, ob3_e, ob4_e, ob6_e]
theorem s_ask (hX : RiseX R lh ll l0 l1 l2 l3) (hY : RiseY R mh mc mv mk mt ms mu) (hG : G ≤ 6) (hh : ∀ g, g < G → mg (4 * g) = th g) (hf : ∀ g, g < G → mg (4 * g + 1) = tf g) (hs : ∀ g, g < G → mg (4 * g + 2) = ts g) (ha : ∀ g, g < G → mg (4 * g + 3) = ta g) (hpp : mr 0 = tp) (hS : RS G q s1 s2 s3 s4 n1 n2 n3 n4) (lt st lt2 st2 : Nat → Int32) (x v : Int32) : ∃ r lt' st' lt2' st2', f_X11_ask (nI G) tp th tf ts ta lh ll l0 l1 l2 l3 (nI q) s1 s2 s3 s4 lt st x v = some (r, lt', st') ∧ f_X12_ask (nI G) mh (nI q) mc mv mk mt ms mu mr mg n1 n2 n3 n4 lt2 st2 x v = some (r, lt2', st2') := by
  rcases glove_or x hG with ⟨g, hg, rfl⟩ | ⟨q1, q2⟩
  · rcases noRise_or v with ⟨r1, r2⟩ | ⟨r1, r2⟩
    · obtain ⟨lt1, st1, f1⟩ := fitting_l (R := R) (tp := tp) (tf := tf) (ts := ts) (ta := ta) hX hG hS hg 10 0 fu lt st (nI 0) (by omega) (by have := fu_le; omega)
      have ff : f_X8_fitting tp tf ts ta lh ll l0 l1 l2 l3 (nI q) s1 s2 s3 s4 lt st (nI g) = some (bbF (pF R tp tf ts ta s1 s2 s3 s4 q g) 10 0 (nI 0), lt1, st1) := f1
      obtain ⟨lt3, st3, f2⟩ := fitsY_l (R := R) (tp := tp) (tf := tf) (ts := ts) (ta := ta) hY hG hf hs ha hpp hS hg (i := nI 0) 10 0 fu lt2 st2 (nI 0) (by omega) (by have := fu_le; omega)
      have fy : f_X12_fits (nI G) mh (nI q) mc mv mk mt ms mu mr mg n1 n2 n3 n4 lt2 st2 (nI g) (nI 0) = some (ftF (pF R tp tf ts ta s1 s2 s3 s4 q g) (nI 0) 10 0 (nI 0), lt3, st3) := by
        have e0 : mI 1 ≤ nI 0 := by decide
        rw [← f2]
        simp (disch := omega) only [f_X12_fits, b_X12_fits_48, b_X12_fits_20, b_X12_fits_0, isGlove_y, e0, neg_nI, lit_nI, nI_add, pk_mul, pk_sub, nI_clamp, inB_nI, gd_true, bnd_def, nI_leI, nI_ltI, nI_eq, nI_mI, mI_nI, nle_T, nle_F, nlt_T, nlt_F, neq_T, neq_F, ↓reduceIte, Nat.add_zero, Nat.zero_add, Nat.mul_zero, Nat.reduceAdd, Nat.reduceMul, Nat.reduceSub, ob1_e, ob2_e, ob3_e, ob4_e, ob6_e]
      have hb : ∀ i, i < 10 → bt (bbF (pF R tp tf ts ta s1 s2 s3 s4 q g) 10 0 (nI 0)) i = pF R tp tf ts ta s1 s2 s3 s4 q g i := by
        intro i hi
        rw [b_bbF (by omega) 10 0 _ (by omega), b_z i (by omega), decide_eq_true (by omega)]
        simp
      by_cases hno : ∀ i, 0 ≤ i → i < 0 + 10 → pF R tp tf ts ta s1 s2 s3 s4 q g i = false
      · have z1 : bbF (pF R tp tf ts ta s1 s2 s3 s4 q g) 10 0 (nI 0) = nI 0 := bbF_none 10 0 _ hno
        have z2 : ftF (pF R tp tf ts ta s1 s2 s3 s4 q g) (nI 0) 10 0 (nI 0) = mI 1 := (ftF_none 10 0 (by omega)).mpr hno
        refine ⟨mI 1, lt1, st1, lt3, st3, ?_, ?_⟩
        · simp (disch := omega) only [f_X11_ask, b_X11_ask_104, b_X11_ask_87, b_X11_ask_45, b_X11_ask_0, hasGlove_y, r1, ff, z1, neg_nI, lit_nI, nI_add, pk_mul, pk_sub, nI_clamp, inB_nI, gd_true, bnd_def, nI_leI, nI_ltI, nI_eq, nI_mI, mI_nI, nle_T, nle_F, nlt_T, nlt_F, neq_T, neq_F, ↓reduceIte, Nat.add_zero, Nat.zero_add, Nat.mul_zero, Nat.reduceAdd, Nat.reduceMul, Nat.reduceSub, ob1_e, ob2_e, ob3_e, ob4_e, ob6_e]
        · simp (disch := omega) only [f_X12_ask, b_X12_ask_105, b_X12_ask_83, b_X12_ask_149, b_X12_ask_139, b_X12_ask_54, b_X12_ask_39, b_X12_ask_0, isGlove_y, r2, fy, z2, neg_nI, lit_nI, nI_add, pk_mul, pk_sub, nI_clamp, inB_nI, gd_true, bnd_def, nI_leI, nI_ltI, nI_eq, nI_mI, mI_nI, nle_T, nle_F, nlt_T, nlt_F, neq_T, neq_F, ↓reduceIte, Nat.add_zero, Nat.zero_add, Nat.mul_zero, Nat.reduceAdd, Nat.reduceMul, Nat.reduceSub, ob1_e, ob2_e, ob3_e, ob4_e, ob6_e]
      · have z1 : ¬ bbF (pF R tp tf ts ta s1 s2 s3 s4 q g) 10 0 (nI 0) = nI 0 := by
          intro z
          apply hno
          intro i _ hi
          rw [← hb i (by omega), z]
          exact b_z i (by omega)
        have z2 : ¬ ftF (pF R tp tf ts ta s1 s2 s3 s4 q g) (nI 0) 10 0 (nI 0) = mI 1 := fun z => hno ((ftF_none 10 0 (by omega)).mp z)
        obtain ⟨r, lt', st', lt2', st2', e1, e2⟩ := ask_l (R := R) (tp := tp) (tf := tf) (ts := ts) (ta := ta) hX hY hG hh hf hs ha hpp hS hg (v := v) hb G 0 fu fu lt1 st1 lt3 st3 (mI 1) (nI 11) (mI 1) (nI 0) (by omega) (by have := fu_le; omega) (by have := fu_le; omega) (Or.inl ⟨rfl, rfl, rfl⟩)
        refine ⟨r, lt', st', lt2', st2', ?_, ?_⟩
        · rw [← e1]
          simp (disch := omega) only [f_X11_ask, b_X11_ask_104, b_X11_ask_87, b_X11_ask_45, b_X11_ask_0, hasGlove_y, r1, ff, z1, neg_nI, lit_nI, nI_add, pk_mul, pk_sub, nI_clamp, inB_nI, gd_true, bnd_def, nI_leI, nI_ltI, nI_eq, nI_mI, mI_nI, nle_T, nle_F, nlt_T, nlt_F, neq_T, neq_F, ↓reduceIte, Nat.add_zero, Nat.zero_add, Nat.mul_zero, Nat.reduceAdd, Nat.reduceMul, Nat.reduceSub, ob1_e, ob2_e, ob3_e, ob4_e, ob6_e]
        · rw [← e2]
          simp (disch := omega) only [f_X12_ask, b_X12_ask_105, b_X12_ask_83, b_X12_ask_149, b_X12_ask_139, b_X12_ask_54, b_X12_ask_39, b_X12_ask_0, isGlove_y, r2, fy, z2, neg_nI, lit_nI, nI_add, pk_mul, pk_sub, nI_clamp, inB_nI, gd_true, bnd_def, nI_leI, nI_ltI, nI_eq, nI_mI, mI_nI, nle_T, nle_F, nlt_T, nlt_F, neq_T, neq_F, ↓reduceIte, Nat.add_zero, Nat.zero_add, Nat.mul_zero, Nat.reduceAdd, Nat.reduceMul, Nat.reduceSub, ob1_e, ob2_e, ob3_e, ob4_e, ob6_e]
    · refine ⟨mI 1, lt, st, lt2, st2, ?_, ?_⟩
      · simp (disch := omega) only [f_X11_ask, b_X11_ask_104, b_X11_ask_87, b_X11_ask_45, b_X11_ask_0, hasGlove_y, r1, neg_nI, lit_nI, nI_add, pk_mul, pk_sub, nI_clamp, inB_nI, gd_true, bnd_def, nI_leI, nI_ltI, nI_eq, nI_mI, mI_nI, nle_T, nle_F, nlt_T, nlt_F, neq_T, neq_F, ↓reduceIte, Nat.add_zero, Nat.zero_add, Nat.mul_zero, Nat.reduceAdd, Nat.reduceMul, Nat.reduceSub, ob1_e, ob2_e, ob3_e, ob4_e, ob6_e]
      · simp (disch := omega) only [f_X12_ask, b_X12_ask_105, b_X12_ask_83, b_X12_ask_149, b_X12_ask_139, b_X12_ask_54, b_X12_ask_39, b_X12_ask_0, isGlove_y, r2, neg_nI, lit_nI, nI_add, pk_mul, pk_sub, nI_clamp, inB_nI, gd_true, bnd_def, nI_leI, nI_ltI, nI_eq, nI_mI, mI_nI, nle_T, nle_F, nlt_T, nlt_F, neq_T, neq_F, ↓reduceIte, Nat.add_zero, Nat.zero_add, Nat.mul_zero, Nat.reduceAdd, Nat.reduceMul, Nat.reduceSub, ob1_e, ob2_e, ob3_e, ob4_e, ob6_e]
  · refine ⟨mI 1, lt, st, lt2, st2, ?_, ?_⟩
    · simp (disch := omega) only [f_X11_ask, b_X11_ask_104, b_X11_ask_87, b_X11_ask_45, b_X11_ask_0, q1, neg_nI, lit_nI, nI_add, pk_mul, pk_sub, nI_clamp, inB_nI, gd_true, bnd_def, nI_leI, nI_ltI, nI_eq, nI_mI, mI_nI, nle_T, nle_F, nlt_T, nlt_F, neq_T, neq_F, ↓reduceIte, Nat.add_zero, Nat.zero_add, Nat.mul_zero, Nat.reduceAdd, Nat.reduceMul, Nat.reduceSub, ob1_e, ob2_e, ob3_e, ob4_e, ob6_e]
    · simp (disch := omega) only [f_X12_ask, b_X12_ask_105, b_X12_ask_83, b_X12_ask_149, b_X12_ask_139, b_X12_ask_54, b_X12_ask_39, b_X12_ask_0, q2, neg_nI, lit_nI, nI_add, pk_mul, pk_sub, nI_clamp, inB_nI, gd_true, bnd_def, nI_leI, nI_ltI, nI_eq, nI_mI, mI_nI, nle_T, nle_F, nlt_T, nlt_F, neq_T, neq_F, ↓reduceIte, Nat.add_zero, Nat.zero_add, Nat.mul_zero, Nat.reduceAdd, Nat.reduceMul, Nat.reduceSub, ob1_e, ob2_e, ob3_e, ob4_e, ob6_e]
end SK
end
