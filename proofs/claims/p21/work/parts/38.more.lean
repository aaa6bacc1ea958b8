/-! undo, image, back, log and the plain reads -/
theorem undo_l {kept : Nat → Int32} {s : Nat} (hs : s < 40) : ∀ (j k n : Nat) (m : Nat → Int32), k + j = 250 → j < n → ∃ m', f_X12_undo_21 kept n (nI s) m (nI k) = some (nI s, nI s, m') ∧ (∀ i, k ≤ i → i < 250 → m' i = kept (250 * s + i)) ∧ (∀ i, i < k → m' i = m i) := by
  intro j
  induction j with
  | zero =>
    intro k n m hk h1
    obtain ⟨n, rfl⟩ : ∃ q, n = q + 1 := ⟨n - 1, by omega⟩
    refine ⟨m, ?_, fun i h2 h3 => by omega, fun _ _ => rfl⟩
    simp (disch := omega) only [f_X12_undo_21, b_X12_undo_21, neg_nI, lit_nI, nI_add, pk_mul, pk_sub, nI_clamp, inB_nI, gd_true, bnd_def, nI_leI, nI_ltI, nI_eq, nI_mI, mI_nI, nle_T, nle_F, nlt_T, nlt_F, neq_T, neq_F, ↓reduceIte, Nat.add_zero, Nat.zero_add, Nat.mul_zero, Nat.reduceAdd, Nat.reduceMul, Nat.reduceSub, ob1_e, ob2_e, ob3_e, ob4_e, ob6_e]
  | succ j ih =>
    intro k n m hk h1
    obtain ⟨n, rfl⟩ : ∃ q, n = q + 1 := ⟨n - 1, by omega⟩
    obtain ⟨m', r1, r2, r3⟩ := ih (k + 1) n (upd m k (kept (250 * s + k))) (by omega) (by omega)
    refine ⟨m', ?_, fun i h2 h3 => ?_, fun i hi => ?_⟩
    · rw [← r1]
      simp (disch := omega) only [f_X12_undo_21, b_X12_undo_21, neg_nI, lit_nI, nI_add, pk_mul, pk_sub, nI_clamp, inB_nI, gd_true, bnd_def, nI_leI, nI_ltI, nI_eq, nI_mI, mI_nI, nle_T, nle_F, nlt_T, nlt_F, neq_T, neq_F, ↓reduceIte, Nat.add_zero, Nat.zero_add, Nat.mul_zero, Nat.reduceAdd, Nat.reduceMul, Nat.reduceSub, ob1_e, ob2_e, ob3_e, ob4_e, ob6_e]
    · by_cases e : i = k
      · rw [e, r3 _ (by omega), upd_y rfl]
      · exact r2 i (by omega) h3
    · rw [r3 i (by omega), upd_n (by omega)]
theorem image_l {G : Nat} {m : Nat → Int32} {hi0 : Int32} : ∀ (j k n : Nat) (im : Nat → Int32), k + j = 250 → j < n → ∃ im', f_X12_image_11 (nI G) m n hi0 im (nI k) = some (m 68, nI 1, im') ∧ (∀ i, k ≤ i → i < 250 → im' i = m i) ∧ (∀ i, i < k → im' i = im i) := by
  intro j
  induction j with
  | zero =>
    intro k n im hk h1
    obtain ⟨n, rfl⟩ : ∃ q, n = q + 1 := ⟨n - 1, by omega⟩
    refine ⟨im, ?_, fun i h2 h3 => by omega, fun _ _ => rfl⟩
    simp (disch := omega) only [f_X12_image_11, b_X12_image_11, neg_nI, lit_nI, nI_add, pk_mul, pk_sub, nI_clamp, inB_nI, gd_true, bnd_def, nI_leI, nI_ltI, nI_eq, nI_mI, mI_nI, nle_T, nle_F, nlt_T, nlt_F, neq_T, neq_F, ↓reduceIte, Nat.add_zero, Nat.zero_add, Nat.mul_zero, Nat.reduceAdd, Nat.reduceMul, Nat.reduceSub, ob1_e, ob2_e, ob3_e, ob4_e, ob6_e]
  | succ j ih =>
    intro k n im hk h1
    obtain ⟨n, rfl⟩ : ∃ q, n = q + 1 := ⟨n - 1, by omega⟩
    obtain ⟨m', r1, r2, r3⟩ := ih (k + 1) n (upd im k (m k)) (by omega) (by omega)
    refine ⟨m', ?_, fun i h2 h3 => ?_, fun i hi => ?_⟩
    · rw [← r1]
      simp (disch := omega) only [f_X12_image_11, b_X12_image_11, neg_nI, lit_nI, nI_add, pk_mul, pk_sub, nI_clamp, inB_nI, gd_true, bnd_def, nI_leI, nI_ltI, nI_eq, nI_mI, mI_nI, nle_T, nle_F, nlt_T, nlt_F, neq_T, neq_F, ↓reduceIte, Nat.add_zero, Nat.zero_add, Nat.mul_zero, Nat.reduceAdd, Nat.reduceMul, Nat.reduceSub, ob1_e, ob2_e, ob3_e, ob4_e, ob6_e]
    · by_cases e : i = k
      · rw [e, r3 _ (by omega), upd_y rfl]
      · exact r2 i (by omega) h3
    · rw [r3 i (by omega), upd_n (by omega)]
theorem back_l {im : Nat → Int32} {hi0 ac : Int32} : ∀ (j k n : Nat) (m : Nat → Int32), k + j = 250 → j < n → ∃ m', f_X12_back_11 hi0 im n ac m (nI k) = some (m' 68, nI 0, m') ∧ (∀ i, k ≤ i → i < 250 → m' i = im i) ∧ (∀ i, i < k → m' i = m i) := by
  intro j
  induction j with
  | zero =>
    intro k n m hk h1
    obtain ⟨n, rfl⟩ : ∃ q, n = q + 1 := ⟨n - 1, by omega⟩
    refine ⟨m, ?_, fun i h2 h3 => by omega, fun _ _ => rfl⟩
    simp (disch := omega) only [f_X12_back_11, b_X12_back_11, neg_nI, lit_nI, nI_add, pk_mul, pk_sub, nI_clamp, inB_nI, gd_true, bnd_def, nI_leI, nI_ltI, nI_eq, nI_mI, mI_nI, nle_T, nle_F, nlt_T, nlt_F, neq_T, neq_F, ↓reduceIte, Nat.add_zero, Nat.zero_add, Nat.mul_zero, Nat.reduceAdd, Nat.reduceMul, Nat.reduceSub, ob1_e, ob2_e, ob3_e, ob4_e, ob6_e]
  | succ j ih =>
    intro k n m hk h1
    obtain ⟨n, rfl⟩ : ∃ q, n = q + 1 := ⟨n - 1, by omega⟩
    obtain ⟨m', r1, r2, r3⟩ := ih (k + 1) n (upd m k (im k)) (by omega) (by omega)
    refine ⟨m', ?_, fun i h2 h3 => ?_, fun i hi => ?_⟩
    · rw [← r1]
      simp (disch := omega) only [f_X12_back_11, b_X12_back_11, neg_nI, lit_nI, nI_add, pk_mul, pk_sub, nI_clamp, inB_nI, gd_true, bnd_def, nI_leI, nI_ltI, nI_eq, nI_mI, mI_nI, nle_T, nle_F, nlt_T, nlt_F, neq_T, neq_F, ↓reduceIte, Nat.add_zero, Nat.zero_add, Nat.mul_zero, Nat.reduceAdd, Nat.reduceMul, Nat.reduceSub, ob1_e, ob2_e, ob3_e, ob4_e, ob6_e]
    · by_cases e : i = k
      · rw [e, r3 _ (by omega), upd_y rfl]
      · exact r2 i (by omega) h3
    · rw [r3 i (by omega), upd_n (by omega)]
def RI (G M : Nat) (th : Nat → Int32) (xi yi : Int32) (imS imB im : Nat → Int32) : Prop := (xi = nI 0 ∧ yi = nI 0) ∨ (xi = nI 1 ∧ yi = nI 1 ∧ ∃ d, RC G M th imB d imS im)
theorem RC.book {G M d : Nat} {th bk bk' c m : Nat → Int32} (h : RC G M th bk d c m) (hb : ∀ i, i < 384 → bk' i = bk i) : RC G M th bk' d c m := by
  obtain ⟨h1, h2, h3, h4, h5⟩ := h
  refine ⟨h1, h2, h3, h4, fun r hr w hw => ?_⟩
  rw [hb _ (by omega)]
  exact h5 r hr w hw
theorem copyS_c {c c' : Nat → Int32} : f_X9_copyFrom c c' = some (va_cpy c c' 0 0 69) := by
  simp (disch := omega) only [f_X9_copyFrom, b_X9_copyFrom_0, spB_c, neg_nI, lit_nI, nI_add, pk_mul, pk_sub, nI_clamp, inB_nI, gd_true, bnd_def, nI_leI, nI_ltI, nI_eq, nI_mI, mI_nI, nle_T, nle_F, nlt_T, nlt_F, neq_T, neq_F, ↓reduceIte, Nat.add_zero, Nat.zero_add, Nat.mul_zero, Nat.reduceAdd, Nat.reduceMul, Nat.reduceSub, ob1_e, ob2_e, ob3_e, ob4_e, ob6_e]
theorem copyB_c {c c' : Nat → Int32} : f_X3_copyFrom c c' = some (va_cpy c c' 0 0 384) := by
  simp (disch := omega) only [f_X3_copyFrom, b_X3_copyFrom_0, spB_c, neg_nI, lit_nI, nI_add, pk_mul, pk_sub, nI_clamp, inB_nI, gd_true, bnd_def, nI_leI, nI_ltI, nI_eq, nI_mI, mI_nI, nle_T, nle_F, nlt_T, nlt_F, neq_T, neq_F, ↓reduceIte, Nat.add_zero, Nat.zero_add, Nat.mul_zero, Nat.reduceAdd, Nat.reduceMul, Nat.reduceSub, ob1_e, ob2_e, ob3_e, ob4_e, ob6_e]
theorem cpy0 {f g : Nat → Int32} {n i : Nat} (h : i < n) : va_cpy f g 0 0 n i = f i := by
  rw [pk_cpy_in (by omega) (by omega)]
  congr 1
  omega
theorem lengthOn_c {d : Nat} (h : d ≤ 999) : f_X3_lengthOn (nI d) = some (nI (min 60 d)) := by
  show some (if nI d < nI 60 then nI d else nI 60) = _
  by_cases e : d < 60
  · rw [if_pos (nI_lt e (by omega)), Nat.min_eq_right (by omega)]
  · rw [if_neg (nI_nlt (by omega) (by omega)), Nat.min_eq_left (by omega)]
section DG
variable {G M s nx : Nat} {th bk rows kept c m rf mr : Nat → Int32}
theorem s_undo (hG : G ≤ 6) (hM : M ≤ 5) (hD : RD G M th bk s nx rows kept c m rf mr) : ∃ r c' s' nx' m', f_X11_undo rows c (nI s) (nI nx) = some (r, c', nI s', nI nx') ∧ f_X12_undo kept (nI s) m = some (r, nI s', m') ∧ RD G M th bk s' nx' rows kept c' m' rf mr := by
  have hD0 := hD
  obtain ⟨d, dd, hC, hA, hd, hF⟩ := hD
  obtain ⟨hs, hn, hr⟩ := hA
  by_cases s0 : s = 0
  · refine ⟨mI 1, c, s, nx, m, ?_, ?_, hD0⟩
    · simp (disch := omega) only [f_X11_undo, b_X11_undo_0, neg_nI, lit_nI, nI_add, pk_mul, pk_sub, nI_clamp, inB_nI, gd_true, bnd_def, nI_leI, nI_ltI, nI_eq, nI_mI, mI_nI, nle_T, nle_F, nlt_T, nlt_F, neq_T, neq_F, ↓reduceIte, Nat.add_zero, Nat.zero_add, Nat.mul_zero, Nat.reduceAdd, Nat.reduceMul, Nat.reduceSub, ob1_e, ob2_e, ob3_e, ob4_e, ob6_e]
    · simp (disch := omega) only [f_X12_undo, b_X12_undo_21, b_X12_undo_0, neg_nI, lit_nI, nI_add, pk_mul, pk_sub, nI_clamp, inB_nI, gd_true, bnd_def, nI_leI, nI_ltI, nI_eq, nI_mI, mI_nI, nle_T, nle_F, nlt_T, nlt_F, neq_T, neq_F, ↓reduceIte, Nat.add_zero, Nat.zero_add, Nat.mul_zero, Nat.reduceAdd, Nat.reduceMul, Nat.reduceSub, ob1_e, ob2_e, ob3_e, ob4_e, ob6_e]
  · obtain ⟨m', r1, r2, r3⟩ := undo_l (kept := kept) (s := s - 1) (by omega) 250 0 fu m (by omega) (by have := fu_le; omega)
    have e1 : rem (nI (nx + 40 - 1)) (nI 40) = nI ((nx + 40 - 1) % 40) := pk_rem (by omega) (by omega) (by omega)
    refine ⟨nI (s - 1), va_cpy rows c ((nx + 40 - 1) % 40 * 69) 0 69, s - 1, (nx + 40 - 1) % 40, m', ?_, ?_, dd (s - 1), dd, ?_, ⟨by omega, by omega, fun j hj => ?_⟩, rfl, hF⟩
    · simp (disch := omega) only [f_X11_undo, b_X11_undo_0, f_X0_takeBack, b_X0_takeBack_0, e1, spB_c, neg_nI, lit_nI, nI_add, pk_mul, pk_sub, nI_clamp, inB_nI, gd_true, bnd_def, nI_leI, nI_ltI, nI_eq, nI_mI, mI_nI, nle_T, nle_F, nlt_T, nlt_F, neq_T, neq_F, ↓reduceIte, Nat.add_zero, Nat.zero_add, Nat.mul_zero, Nat.reduceAdd, Nat.reduceMul, Nat.reduceSub, ob1_e, ob2_e, ob3_e, ob4_e, ob6_e]
    · rw [← r1]
      simp (disch := omega) only [f_X12_undo, b_X12_undo_21, b_X12_undo_0, neg_nI, lit_nI, nI_add, pk_mul, pk_sub, nI_clamp, inB_nI, gd_true, bnd_def, nI_leI, nI_ltI, nI_eq, nI_mI, mI_nI, nle_T, nle_F, nlt_T, nlt_F, neq_T, neq_F, ↓reduceIte, Nat.add_zero, Nat.zero_add, Nat.mul_zero, Nat.reduceAdd, Nat.reduceMul, Nat.reduceSub, ob1_e, ob2_e, ob3_e, ob4_e, ob6_e]
    · refine (hr (s - 1) (by omega)).1.cong hG hM (fun i hi => ?_) (fun i hi => r2 i (by omega) hi)
      rw [pk_cpy_in (by omega) (by omega)]
      show rows _ = rows (69 * ((nx + 40 - s + (s - 1)) % 40) + i)
      congr 1
      rw [show (nx + 40 - s + (s - 1)) % 40 = (nx + 40 - 1) % 40 by omega]
      omega
    · have q := hr j (by omega)
      rw [show ((nx + 40 - 1) % 40 + 40 - (s - 1) + j) % 40 = (nx + 40 - s + j) % 40 by omega]
      exact q
theorem s_image {xi yi : Int32} {imS imB im : Nat → Int32} (hG : G ≤ 6) (hM : M ≤ 5) (hD : RD G M th bk s nx rows kept c m rf mr) (hI : RI G M th xi yi imS imB im) : ∃ r xi' imS' imB' yi' im', f_X11_image (nI G) c bk xi imS imB = some (r, xi', imS', imB') ∧ f_X12_image (nI G) m yi im = some (r, yi', im') ∧ RI G M th xi' yi' imS' imB' im' := by
  obtain ⟨d, dd, hC, hA, hd, hF⟩ := hD
  have e68 : m 68 = c 68 := hC.1 68 (by omega)
  by_cases g0 : G = 0
  · refine ⟨mI 1, xi, imS, imB, yi, im, ?_, ?_, hI⟩
    · simp (disch := omega) only [f_X11_image, b_X11_image_0, noPeace_y g0, neg_nI, lit_nI, nI_add, pk_mul, pk_sub, nI_clamp, inB_nI, gd_true, bnd_def, nI_leI, nI_ltI, nI_eq, nI_mI, mI_nI, nle_T, nle_F, nlt_T, nlt_F, neq_T, neq_F, ↓reduceIte, Nat.add_zero, Nat.zero_add, Nat.mul_zero, Nat.reduceAdd, Nat.reduceMul, Nat.reduceSub, ob1_e, ob2_e, ob3_e, ob4_e, ob6_e]
    · simp (disch := omega) only [f_X12_image, b_X12_image_11, b_X12_image_0, neg_nI, lit_nI, nI_add, pk_mul, pk_sub, nI_clamp, inB_nI, gd_true, bnd_def, nI_leI, nI_ltI, nI_eq, nI_mI, mI_nI, nle_T, nle_F, nlt_T, nlt_F, neq_T, neq_F, ↓reduceIte, Nat.add_zero, Nat.zero_add, Nat.mul_zero, Nat.reduceAdd, Nat.reduceMul, Nat.reduceSub, ob1_e, ob2_e, ob3_e, ob4_e, ob6_e]
  · obtain ⟨im', r1, r2, r3⟩ := image_l (G := G) (m := m) (hi0 := yi) 250 0 fu im (by omega) (by have := fu_le; omega)
    refine ⟨c 68, nI 1, va_cpy c imS 0 0 69, va_cpy bk imB 0 0 384, nI 1, im', ?_, ?_, Or.inr ⟨rfl, rfl, d, (hC.cong hG hM (fun i hi => cpy0 hi) (fun i hi => r2 i (by omega) hi)).book (fun i hi => cpy0 hi)⟩⟩
    · simp (disch := omega) only [f_X11_image, b_X11_image_0, noPeace_n, copyS_c, copyB_c, day_c, neg_nI, lit_nI, nI_add, pk_mul, pk_sub, nI_clamp, inB_nI, gd_true, bnd_def, nI_leI, nI_ltI, nI_eq, nI_mI, mI_nI, nle_T, nle_F, nlt_T, nlt_F, neq_T, neq_F, ↓reduceIte, Nat.add_zero, Nat.zero_add, Nat.mul_zero, Nat.reduceAdd, Nat.reduceMul, Nat.reduceSub, ob1_e, ob2_e, ob3_e, ob4_e, ob6_e]
    · rw [← e68, ← r1]
      simp (disch := omega) only [f_X12_image, b_X12_image_11, b_X12_image_0, neg_nI, lit_nI, nI_add, pk_mul, pk_sub, nI_clamp, inB_nI, gd_true, bnd_def, nI_leI, nI_ltI, nI_eq, nI_mI, mI_nI, nle_T, nle_F, nlt_T, nlt_F, neq_T, neq_F, ↓reduceIte, Nat.add_zero, Nat.zero_add, Nat.mul_zero, Nat.reduceAdd, Nat.reduceMul, Nat.reduceSub, ob1_e, ob2_e, ob3_e, ob4_e, ob6_e]
theorem s_back {xi yi : Int32} {imS imB im : Nat → Int32} (hG : G ≤ 6) (hM : M ≤ 5) (hD : RD G M th bk s nx rows kept c m rf mr) (hI : RI G M th xi yi imS imB im) : ∃ r c' bk' s' m', f_X11_back xi imS imB c bk (nI s) = some (r, c', bk', nI s') ∧ f_X12_back yi im (nI s) m = some (r, nI s', m') ∧ RD G M th bk' s' nx rows kept c' m' rf mr := by
  rcases hI with ⟨rfl, rfl⟩ | ⟨rfl, rfl, d, hC⟩
  · refine ⟨mI 1, c, bk, s, m, ?_, ?_, hD⟩
    · simp (disch := omega) only [f_X11_back, b_X11_back_0, neg_nI, lit_nI, nI_add, pk_mul, pk_sub, nI_clamp, inB_nI, gd_true, bnd_def, nI_leI, nI_ltI, nI_eq, nI_mI, mI_nI, nle_T, nle_F, nlt_T, nlt_F, neq_T, neq_F, ↓reduceIte, Nat.add_zero, Nat.zero_add, Nat.mul_zero, Nat.reduceAdd, Nat.reduceMul, Nat.reduceSub, ob1_e, ob2_e, ob3_e, ob4_e, ob6_e]
    · simp (disch := omega) only [f_X12_back, b_X12_back_11, b_X12_back_0, neg_nI, lit_nI, nI_add, pk_mul, pk_sub, nI_clamp, inB_nI, gd_true, bnd_def, nI_leI, nI_ltI, nI_eq, nI_mI, mI_nI, nle_T, nle_F, nlt_T, nlt_F, neq_T, neq_F, ↓reduceIte, Nat.add_zero, Nat.zero_add, Nat.mul_zero, Nat.reduceAdd, Nat.reduceMul, Nat.reduceSub, ob1_e, ob2_e, ob3_e, ob4_e, ob6_e]
  · obtain ⟨-, dd, -, ⟨hs, hn, -⟩, -, hF⟩ := hD
    obtain ⟨m', r1, r2, r3⟩ := back_l (im := im) (hi0 := nI 1) (ac := nI s) 250 0 fu m (by omega) (by have := fu_le; omega)
    have hC2 := (hC.cong hG hM (fun i hi => cpy0 (g := c) hi) (fun i hi => r2 i (by omega) hi)).book (fun i hi => cpy0 (g := bk) hi)
    have e68 : m' 68 = va_cpy imS c 0 0 69 68 := hC2.1 68 (by omega)
    refine ⟨va_cpy imS c 0 0 69 68, va_cpy imS c 0 0 69, va_cpy imB bk 0 0 384, 0, m', ?_, ?_, d, fun _ => d, hC2, ⟨by omega, hn, fun j hj => by omega⟩, rfl, hF⟩
    · simp (disch := omega) only [f_X11_back, b_X11_back_0, f_X0_forget, b_X0_forget_0, copyS_c, copyB_c, day_c, neg_nI, lit_nI, nI_add, pk_mul, pk_sub, nI_clamp, inB_nI, gd_true, bnd_def, nI_leI, nI_ltI, nI_eq, nI_mI, mI_nI, nle_T, nle_F, nlt_T, nlt_F, neq_T, neq_F, ↓reduceIte, Nat.add_zero, Nat.zero_add, Nat.mul_zero, Nat.reduceAdd, Nat.reduceMul, Nat.reduceSub, ob1_e, ob2_e, ob3_e, ob4_e, ob6_e]
    · rw [← e68, ← r1]
      simp (disch := omega) only [f_X12_back, b_X12_back_11, b_X12_back_0, neg_nI, lit_nI, nI_add, pk_mul, pk_sub, nI_clamp, inB_nI, gd_true, bnd_def, nI_leI, nI_ltI, nI_eq, nI_mI, mI_nI, nle_T, nle_F, nlt_T, nlt_F, neq_T, neq_F, ↓reduceIte, Nat.add_zero, Nat.zero_add, Nat.mul_zero, Nat.reduceAdd, Nat.reduceMul, Nat.reduceSub, ob1_e, ob2_e, ob3_e, ob4_e, ob6_e]
theorem s_log (hD : RD G M th bk s nx rows kept c m rf mr) (x y : Int32) : ∃ r, f_X11_log c bk x y = some r ∧ f_X12_log m x y = some r := by
  obtain ⟨d, dd, ⟨hN, hI, ⟨e68, hd9⟩, h69, hR⟩, -⟩ := hD
  have hL : min 60 d ≤ 60 ∧ min 60 d ≤ d := by omega
  rcases rngN x (min 60 d) (by omega) with ⟨i, hi, rfl⟩ | h0 | ⟨h0, h1, h2⟩
  · rcases rng y 2 (by omega) with ⟨w, hw, rfl⟩ | k0 | ⟨k0, k1, k2⟩
    · have e := hR (min 60 d - 1 - i) (by omega) w (by omega)
      rw [show 70 + (3 * (min 60 d - 1 - i) + w) = 70 + 3 * (min 60 d - 1 - i) + w by omega, show d - min 60 d + (min 60 d - 1 - i) = d - 1 - i by omega] at e
      refine ⟨bk ((d - 1 - i) % 128 * 3 + w), ?_, ?_⟩
      · simp (disch := omega) only [f_X11_log, b_X11_log_0, f_X3_read, b_X3_read_0, day_c, e68, lengthOn_c, and127, neg_nI, lit_nI, nI_add, pk_mul, pk_sub, nI_clamp, inB_nI, gd_true, bnd_def, nI_leI, nI_ltI, nI_eq, nI_mI, mI_nI, nle_T, nle_F, nlt_T, nlt_F, neq_T, neq_F, ↓reduceIte, Nat.add_zero, Nat.zero_add, Nat.mul_zero, Nat.reduceAdd, Nat.reduceMul, Nat.reduceSub, ob1_e, ob2_e, ob3_e, ob4_e, ob6_e]
      · simp (disch := omega) only [f_X12_log, b_X12_log_0, h69, in_c, e, neg_nI, lit_nI, nI_add, pk_mul, pk_sub, nI_clamp, inB_nI, gd_true, bnd_def, nI_leI, nI_ltI, nI_eq, nI_mI, mI_nI, nle_T, nle_F, nlt_T, nlt_F, neq_T, neq_F, ↓reduceIte, Nat.add_zero, Nat.zero_add, Nat.mul_zero, Nat.reduceAdd, Nat.reduceMul, Nat.reduceSub, ob1_e, ob2_e, ob3_e, ob4_e, ob6_e]
    · refine ⟨mI 1, ?_, ?_⟩
      · simp (disch := omega) only [f_X11_log, b_X11_log_0, day_c, e68, lengthOn_c, k0, neg_nI, lit_nI, nI_add, pk_mul, pk_sub, nI_clamp, inB_nI, gd_true, bnd_def, nI_leI, nI_ltI, nI_eq, nI_mI, mI_nI, nle_T, nle_F, nlt_T, nlt_F, neq_T, neq_F, ↓reduceIte, Nat.add_zero, Nat.zero_add, Nat.mul_zero, Nat.reduceAdd, Nat.reduceMul, Nat.reduceSub, ob1_e, ob2_e, ob3_e, ob4_e, ob6_e]
      · simp (disch := omega) only [f_X12_log, b_X12_log_0, h69, in_c, in_lo (hi := nI 2) k0, neg_nI, lit_nI, nI_add, pk_mul, pk_sub, nI_clamp, inB_nI, gd_true, bnd_def, nI_leI, nI_ltI, nI_eq, nI_mI, mI_nI, nle_T, nle_F, nlt_T, nlt_F, neq_T, neq_F, ↓reduceIte, Nat.add_zero, Nat.zero_add, Nat.mul_zero, Nat.reduceAdd, Nat.reduceMul, Nat.reduceSub, ob1_e, ob2_e, ob3_e, ob4_e, ob6_e]
    · refine ⟨mI 1, ?_, ?_⟩
      · simp (disch := omega) only [f_X11_log, b_X11_log_0, day_c, e68, lengthOn_c, k0, k2, neg_nI, lit_nI, nI_add, pk_mul, pk_sub, nI_clamp, inB_nI, gd_true, bnd_def, nI_leI, nI_ltI, nI_eq, nI_mI, mI_nI, nle_T, nle_F, nlt_T, nlt_F, neq_T, neq_F, ↓reduceIte, Nat.add_zero, Nat.zero_add, Nat.mul_zero, Nat.reduceAdd, Nat.reduceMul, Nat.reduceSub, ob1_e, ob2_e, ob3_e, ob4_e, ob6_e]
      · simp (disch := omega) only [f_X12_log, b_X12_log_0, h69, in_c, in_hi (lo := nI 0) k1, neg_nI, lit_nI, nI_add, pk_mul, pk_sub, nI_clamp, inB_nI, gd_true, bnd_def, nI_leI, nI_ltI, nI_eq, nI_mI, mI_nI, nle_T, nle_F, nlt_T, nlt_F, neq_T, neq_F, ↓reduceIte, Nat.add_zero, Nat.zero_add, Nat.mul_zero, Nat.reduceAdd, Nat.reduceMul, Nat.reduceSub, ob1_e, ob2_e, ob3_e, ob4_e, ob6_e]
  · refine ⟨mI 1, ?_, ?_⟩
    · simp (disch := omega) only [f_X11_log, b_X11_log_0, h0, neg_nI, lit_nI, nI_add, pk_mul, pk_sub, nI_clamp, inB_nI, gd_true, bnd_def, nI_leI, nI_ltI, nI_eq, nI_mI, mI_nI, nle_T, nle_F, nlt_T, nlt_F, neq_T, neq_F, ↓reduceIte, Nat.add_zero, Nat.zero_add, Nat.mul_zero, Nat.reduceAdd, Nat.reduceMul, Nat.reduceSub, ob1_e, ob2_e, ob3_e, ob4_e, ob6_e]
    · simp only [f_X12_log, b_X12_log_0, h69, in_lo h0, neg_nI, lit_nI, nI_add, pk_mul, pk_sub, nI_clamp, inB_nI, gd_true, bnd_def, nI_leI, nI_ltI, nI_eq, nI_mI, mI_nI, nle_T, nle_F, nlt_T, nlt_F, neq_T, neq_F, ↓reduceIte, Nat.add_zero, Nat.zero_add, Nat.mul_zero, Nat.reduceAdd, Nat.reduceMul, Nat.reduceSub, ob1_e, ob2_e, ob3_e, ob4_e, ob6_e]
      simp (disch := omega) only [neg_nI, lit_nI, nI_add, pk_mul, pk_sub, nI_clamp, inB_nI, gd_true, bnd_def, nI_leI, nI_ltI, nI_eq, nI_mI, mI_nI, nle_T, nle_F, nlt_T, nlt_F, neq_T, neq_F, ↓reduceIte, Nat.add_zero, Nat.zero_add, Nat.mul_zero, Nat.reduceAdd, Nat.reduceMul, Nat.reduceSub, ob1_e, ob2_e, ob3_e, ob4_e, ob6_e]
  · refine ⟨mI 1, ?_, ?_⟩
    · simp (disch := omega) only [f_X11_log, b_X11_log_0, day_c, e68, lengthOn_c, h0, h1, neg_nI, lit_nI, nI_add, pk_mul, pk_sub, nI_clamp, inB_nI, gd_true, bnd_def, nI_leI, nI_ltI, nI_eq, nI_mI, mI_nI, nle_T, nle_F, nlt_T, nlt_F, neq_T, neq_F, ↓reduceIte, Nat.add_zero, Nat.zero_add, Nat.mul_zero, Nat.reduceAdd, Nat.reduceMul, Nat.reduceSub, ob1_e, ob2_e, ob3_e, ob4_e, ob6_e]
    · have q := in_hi (lo := nI 0) (nI_gm1 x (show min 60 d < 2 ^ 31 - 1 by omega) h1 h0)
      simp (disch := omega) only [f_X12_log, b_X12_log_0, h69, ↓q, neg_nI, lit_nI, nI_add, pk_mul, pk_sub, nI_clamp, inB_nI, gd_true, bnd_def, nI_leI, nI_ltI, nI_eq, nI_mI, mI_nI, nle_T, nle_F, nlt_T, nlt_F, neq_T, neq_F, ↓reduceIte, Nat.add_zero, Nat.zero_add, Nat.mul_zero, Nat.reduceAdd, Nat.reduceMul, Nat.reduceSub, ob1_e, ob2_e, ob3_e, ob4_e, ob6_e]
end DG
