/-! the model's allKnow answers, and puts its cells back -/
section KY
variable {R : R6} {lh : Int32} {ll l0 l1 l2 l3 : Nat → Int32} {mh : Int32} {mc mv mk mt ms mu : Nat → Int32}
variable {G M : Nat} {th ta tn mg mm c m : Nat → Int32}
theorem signY_t {g o : Nat} (hM : M ≤ 5) (hg : g < 6) (ho : o < 6) : ∀ (j k n : Nat) (m : Nat → Int32), k + j = M → j < n → ∃ m', f_X12_signNow_2 (nI M) mm n m (nI g) (nI o) (nI k) = some m' ∧ (∀ i, 66 ≤ i → m' i = m i) := by
  intro j
  induction j with
  | zero =>
    intro k n m hk h1
    obtain ⟨n, rfl⟩ : ∃ q, n = q + 1 := ⟨n - 1, by omega⟩
    exact ⟨m, by simp (disch := omega) only [f_X12_signNow_2, b_X12_signNow_2, neg_nI, lit_nI, nI_add, pk_mul, pk_sub, nI_clamp, inB_nI, gd_true, bnd_def, nI_leI, nI_ltI, nI_eq, nI_mI, mI_nI, nle_T, nle_F, nlt_T, nlt_F, neq_T, neq_F, ↓reduceIte, Nat.add_zero, Nat.zero_add, Nat.mul_zero, Nat.reduceAdd, Nat.reduceMul, Nat.reduceSub, ob1_e, ob2_e, ob3_e, ob4_e, ob6_e], fun _ _ => rfl⟩
  | succ j ih =>
    intro k n m hk h1
    obtain ⟨n, rfl⟩ : ∃ q, n = q + 1 := ⟨n - 1, by omega⟩
    have hp := pl_lt ⟨hg, ho⟩
    by_cases hs : m (60 + k) = mI 1
    · by_cases hw : m (pl g o) < mm (2 * k + 1)
      · obtain ⟨m', r1, r2⟩ := ih (k + 1) n m (by omega) (by omega)
        refine ⟨m', ?_, r2⟩
        rw [← r1]
        simp (disch := omega) only [f_X12_signNow_2, b_X12_signNow_2, b_X12_signNow_74, pairAt_c, inB_pl, pl_clamp, hs, hw, neg_nI, lit_nI, nI_add, pk_mul, pk_sub, nI_clamp, inB_nI, gd_true, bnd_def, nI_leI, nI_ltI, nI_eq, nI_mI, mI_nI, nle_T, nle_F, nlt_T, nlt_F, neq_T, neq_F, ↓reduceIte, Nat.add_zero, Nat.zero_add, Nat.mul_zero, Nat.reduceAdd, Nat.reduceMul, Nat.reduceSub, ob1_e, ob2_e, ob3_e, ob4_e, ob6_e]
      · refine ⟨upd (upd m (60 + k) (nI (cd g o))) 65 (upd m (60 + k) (nI (cd g o)) 65 ||| (nI 1 <<< (nI k &&& nI 31))), ?_, fun i hi => by rw [upd_n (by omega), upd_n (by omega)]⟩
        simp (disch := omega) only [f_X12_signNow_2, b_X12_signNow_2, b_X12_signNow_74, pairAt_c, codeOf_c, inB_pl, pl_clamp, hs, hw, neg_nI, lit_nI, nI_add, pk_mul, pk_sub, nI_clamp, inB_nI, gd_true, bnd_def, nI_leI, nI_ltI, nI_eq, nI_mI, mI_nI, nle_T, nle_F, nlt_T, nlt_F, neq_T, neq_F, ↓reduceIte, Nat.add_zero, Nat.zero_add, Nat.mul_zero, Nat.reduceAdd, Nat.reduceMul, Nat.reduceSub, ob1_e, ob2_e, ob3_e, ob4_e, ob6_e]
    · obtain ⟨m', r1, r2⟩ := ih (k + 1) n m (by omega) (by omega)
      refine ⟨m', ?_, r2⟩
      rw [← r1]
      simp (disch := omega) only [f_X12_signNow_2, b_X12_signNow_2, b_X12_signNow_74, hs, neg_nI, lit_nI, nI_add, pk_mul, pk_sub, nI_clamp, inB_nI, gd_true, bnd_def, nI_leI, nI_ltI, nI_eq, nI_mI, mI_nI, nle_T, nle_F, nlt_T, nlt_F, neq_T, neq_F, ↓reduceIte, Nat.add_zero, Nat.zero_add, Nat.mul_zero, Nat.reduceAdd, Nat.reduceMul, Nat.reduceSub, ob1_e, ob2_e, ob3_e, ob4_e, ob6_e]
theorem meetY_t (hY : RiseY R mh mc mv mk mt ms mu) (hM : M ≤ 5) {g o : Nat} (hg : g < 6) (ho : o < 6) (lt st m : Nat → Int32) : ∃ lt' st' m', f_X12_meetNow (nI M) mh mc mv mk mt ms mu mg mm lt st m (nI g) (nI o) = some (lt', st', m') ∧ (∀ i, 66 ≤ i → m' i = m i) := by
  have hp := pl_lt ⟨hg, ho⟩
  obtain ⟨lt', st', e2⟩ := riseOfY_c hY (mg := mg) (m := m) (lt := lt) (st := st) (g := g) (o := o) ⟨hg, ho⟩
  generalize hz : hd (m (pl g o) + rv R (tA mg) m g o (m (pl g o)) (m 68)) = z
  generalize hk : m (48 + g) ||| m (48 + o) = kk
  obtain ⟨m', s1, s2⟩ := signY_t (mm := mm) hM hg ho M 0 fu (mt4 m g o z kk) (by omega) (by have := fu_le; omega)
  have q : f_X12_signNow (nI M) mm (mt4 m g o z kk) (nI g) (nI o) = some m' := s1
  unfold mt4 at q
  refine ⟨lt', st', m', ?_, fun i hi => ?_⟩
  · simp (disch := omega) only [f_X12_meetNow, b_X12_meetNow_0, pairAt_c, e2, held_c, hz, inB_pl, pl_clamp, upd_n, hk, q, neg_nI, lit_nI, nI_add, pk_mul, pk_sub, nI_clamp, inB_nI, gd_true, bnd_def, nI_leI, nI_ltI, nI_eq, nI_mI, mI_nI, nle_T, nle_F, nlt_T, nlt_F, neq_T, neq_F, ↓reduceIte, Nat.add_zero, Nat.zero_add, Nat.mul_zero, Nat.reduceAdd, Nat.reduceMul, Nat.reduceSub, ob1_e, ob2_e, ob3_e, ob4_e, ob6_e]
  · rw [s2 i hi]
    unfold mt4
    rw [upd_n (by omega), upd_n (by omega), upd_n (by omega), upd_n (by omega), upd_n (by omega)]
theorem coolY_in (hG : G ≤ 6) {a : Nat} (ha : a < G) {k : (Nat → Int32) → Int32 → Option (Nat → Int32)} : ∀ (j b n : Nat) (m : Nat → Int32), b + j = G → j < n → ∃ m', f_X12_cool_14 (nI G) mg k n m (nI a) (nI b) = k m' (nI (a + 1)) ∧ (∀ i, 36 ≤ i → m' i = m i) := by
  intro j
  induction j with
  | zero =>
    intro b n m hb h1
    obtain ⟨n, rfl⟩ : ∃ q, n = q + 1 := ⟨n - 1, by omega⟩
    exact ⟨m, by simp (disch := omega) only [f_X12_cool_14, b_X12_cool_14, neg_nI, lit_nI, nI_add, pk_mul, pk_sub, nI_clamp, inB_nI, gd_true, bnd_def, nI_leI, nI_ltI, nI_eq, nI_mI, mI_nI, nle_T, nle_F, nlt_T, nlt_F, neq_T, neq_F, ↓reduceIte, Nat.add_zero, Nat.zero_add, Nat.mul_zero, Nat.reduceAdd, Nat.reduceMul, Nat.reduceSub, ob1_e, ob2_e, ob3_e, ob4_e, ob6_e], fun _ _ => rfl⟩
  | succ j ih =>
    intro b n m hb h1
    obtain ⟨n, rfl⟩ : ∃ q, n = q + 1 := ⟨n - 1, by omega⟩
    have hp := pl_lt (a := a) (b := b) ⟨by omega, by omega⟩
    by_cases ht : mg (4 * a) = mg (4 * b)
    · obtain ⟨m', r1, r2⟩ := ih (b + 1) n m (by omega) (by omega)
      refine ⟨m', ?_, r2⟩
      rw [← r1]
      simp (disch := omega) only [f_X12_cool_14, b_X12_cool_14, b_X12_cool_69, areTwo_c, ht, neg_nI, lit_nI, nI_add, pk_mul, pk_sub, nI_clamp, inB_nI, gd_true, bnd_def, nI_leI, nI_ltI, nI_eq, nI_mI, mI_nI, nle_T, nle_F, nlt_T, nlt_F, neq_T, neq_F, ↓reduceIte, Nat.add_zero, Nat.zero_add, Nat.mul_zero, Nat.reduceAdd, Nat.reduceMul, Nat.reduceSub, ob1_e, ob2_e, ob3_e, ob4_e, ob6_e]
    · by_cases hs : m (54 + a) = nI b
      · obtain ⟨m', r1, r2⟩ := ih (b + 1) n m (by omega) (by omega)
        refine ⟨m', ?_, r2⟩
        rw [← r1]
        simp (disch := omega) only [f_X12_cool_14, b_X12_cool_14, b_X12_cool_69, areTwo_c, ht, hs, neg_nI, lit_nI, nI_add, pk_mul, pk_sub, nI_clamp, inB_nI, gd_true, bnd_def, nI_leI, nI_ltI, nI_eq, nI_mI, mI_nI, nle_T, nle_F, nlt_T, nlt_F, neq_T, neq_F, ↓reduceIte, Nat.add_zero, Nat.zero_add, Nat.mul_zero, Nat.reduceAdd, Nat.reduceMul, Nat.reduceSub, ob1_e, ob2_e, ob3_e, ob4_e, ob6_e]
      · obtain ⟨m', r1, r2⟩ := ih (b + 1) n (upd m (pl a b) (hd (m (pl a b) - nI 1))) (by omega) (by omega)
        refine ⟨m', ?_, fun i hi => by rw [r2 i hi, upd_n (by omega)]⟩
        rw [← r1]
        simp (disch := omega) only [f_X12_cool_14, b_X12_cool_14, b_X12_cool_69, areTwo_c, pairAt_c, inB_pl, pl_clamp, held_c, ht, hs, neg_nI, lit_nI, nI_add, pk_mul, pk_sub, nI_clamp, inB_nI, gd_true, bnd_def, nI_leI, nI_ltI, nI_eq, nI_mI, mI_nI, nle_T, nle_F, nlt_T, nlt_F, neq_T, neq_F, ↓reduceIte, Nat.add_zero, Nat.zero_add, Nat.mul_zero, Nat.reduceAdd, Nat.reduceMul, Nat.reduceSub, ob1_e, ob2_e, ob3_e, ob4_e, ob6_e]
theorem coolY_t (hG : G ≤ 6) : ∀ (j a n : Nat) (m : Nat → Int32), a + j = G → j < n → ∃ m', f_X12_cool_2 (nI G) mg n m (nI a) = some m' ∧ (∀ i, 36 ≤ i → m' i = m i) := by
  intro j
  induction j with
  | zero =>
    intro a n m ha h1
    obtain ⟨n, rfl⟩ : ∃ q, n = q + 1 := ⟨n - 1, by omega⟩
    exact ⟨m, by simp (disch := omega) only [f_X12_cool_2, b_X12_cool_2, neg_nI, lit_nI, nI_add, pk_mul, pk_sub, nI_clamp, inB_nI, gd_true, bnd_def, nI_leI, nI_ltI, nI_eq, nI_mI, mI_nI, nle_T, nle_F, nlt_T, nlt_F, neq_T, neq_F, ↓reduceIte, Nat.add_zero, Nat.zero_add, Nat.mul_zero, Nat.reduceAdd, Nat.reduceMul, Nat.reduceSub, ob1_e, ob2_e, ob3_e, ob4_e, ob6_e], fun _ _ => rfl⟩
  | succ j ih =>
    intro a n m ha h1
    obtain ⟨n, rfl⟩ : ∃ q, n = q + 1 := ⟨n - 1, by omega⟩
    obtain ⟨m1, p1, p2⟩ := coolY_in (mg := mg) hG (show a < G by omega) (k := f_X12_cool_2 (nI G) mg n) (G - (a + 1)) (a + 1) fu m (by omega) (by have := fu_le; omega)
    obtain ⟨m', r1, r2⟩ := ih (a + 1) n m1 (by omega) (by omega)
    refine ⟨m', ?_, fun i hi => by rw [r2 i hi, p2 i hi]⟩
    rw [← r1, ← p1]
    simp (disch := omega) only [f_X12_cool_2, b_X12_cool_2, neg_nI, lit_nI, nI_add, pk_mul, pk_sub, nI_clamp, inB_nI, gd_true, bnd_def, nI_leI, nI_ltI, nI_eq, nI_mI, mI_nI, nle_T, nle_F, nlt_T, nlt_F, neq_T, neq_F, ↓reduceIte, Nat.add_zero, Nat.zero_add, Nat.mul_zero, Nat.reduceAdd, Nat.reduceMul, Nat.reduceSub, ob1_e, ob2_e, ob3_e, ob4_e, ob6_e]
theorem liveY_t (hG : G ≤ 6) (m : Nat → Int32) : ∃ m', f_X12_live (nI G) mg m = some m' ∧ (∀ i, 69 ≤ i → m' i = m i) := by
  obtain ⟨m1, p1, p2⟩ := coolY_t (mg := mg) hG G 0 fu m (by omega) (by have := fu_le; omega)
  have p1' : f_X12_cool (nI G) mg m = some m1 := p1
  obtain ⟨m3, q1, -, -, -, q5⟩ := live_in (G := G) (mg := mg) hG G 0 fu (upd m1 67 (mn (nI 999) (m1 67 + nI 2))) (by omega) (by have := fu_le; omega)
  refine ⟨m3, ?_, fun i hi => ?_⟩
  · simp (disch := omega) only [f_X12_live, b_X12_live_0, p1', neg_nI, lit_nI, nI_add, pk_mul, pk_sub, nI_clamp, inB_nI, gd_true, bnd_def, nI_leI, nI_ltI, nI_eq, nI_mI, mI_nI, nle_T, nle_F, nlt_T, nlt_F, neq_T, neq_F, ↓reduceIte, Nat.add_zero, Nat.zero_add, Nat.mul_zero, Nat.reduceAdd, Nat.reduceMul, Nat.reduceSub, ob1_e, ob2_e, ob3_e, ob4_e, ob6_e]
    exact q1
  · rw [q5 i (by omega) (by omega) (by omega), upd_n (by omega), p2 i (by omega)]
theorem allY_l (hG : G ≤ 6) : ∀ (j k n : Nat) (v : Bool), k + j = G → j < n → ∃ b, f_X12_doAllKnow_4 (nI G) m n (bz v) (nI k) = some (bz b) := by
  intro j
  induction j with
  | zero =>
    intro k n v hk h1
    obtain ⟨n, rfl⟩ : ∃ q, n = q + 1 := ⟨n - 1, by omega⟩
    exact ⟨v, by simp (disch := omega) only [f_X12_doAllKnow_4, b_X12_doAllKnow_4, isZ_bz, neg_nI, lit_nI, nI_add, pk_mul, pk_sub, nI_clamp, inB_nI, gd_true, bnd_def, nI_leI, nI_ltI, nI_eq, nI_mI, mI_nI, nle_T, nle_F, nlt_T, nlt_F, neq_T, neq_F, ↓reduceIte, Nat.add_zero, Nat.zero_add, Nat.mul_zero, Nat.reduceAdd, Nat.reduceMul, Nat.reduceSub, ob1_e, ob2_e, ob3_e, ob4_e, ob6_e]⟩
  | succ j ih =>
    intro k n v hk h1
    obtain ⟨n, rfl⟩ : ∃ q, n = q + 1 := ⟨n - 1, by omega⟩
    cases v with
    | false =>
      obtain ⟨b, e1⟩ := ih (k + 1) n false (by omega) (by omega)
      rw [bz_f] at e1
      exact ⟨b, by rw [bz_f]; simp (disch := omega) only [f_X12_doAllKnow_4, f_X12_doAllKnow, b_X12_doAllKnow_41, b_X12_doAllKnow_40, b_X12_doAllKnow_4, b_X12_doAllKnow_0, e1, neg_nI, lit_nI, nI_add, pk_mul, pk_sub, nI_clamp, inB_nI, gd_true, bnd_def, nI_leI, nI_ltI, nI_eq, nI_mI, mI_nI, nle_T, nle_F, nlt_T, nlt_F, neq_T, neq_F, ↓reduceIte, Nat.add_zero, Nat.zero_add, Nat.mul_zero, Nat.reduceAdd, Nat.reduceMul, Nat.reduceSub, ob1_e, ob2_e, ob3_e, ob4_e, ob6_e]⟩
    | true =>
      by_cases e : m (48 + k) = (nI 1 <<< (nI G &&& nI 31)) - nI 1
      · obtain ⟨b, e1⟩ := ih (k + 1) n true (by omega) (by omega)
        rw [bz_t] at e1
        exact ⟨b, by rw [bz_t]; simp (disch := omega) only [f_X12_doAllKnow_4, f_X12_doAllKnow, b_X12_doAllKnow_41, b_X12_doAllKnow_40, b_X12_doAllKnow_4, b_X12_doAllKnow_0, e, e1, neg_nI, lit_nI, nI_add, pk_mul, pk_sub, nI_clamp, inB_nI, gd_true, bnd_def, nI_leI, nI_ltI, nI_eq, nI_mI, mI_nI, nle_T, nle_F, nlt_T, nlt_F, neq_T, neq_F, ↓reduceIte, Nat.add_zero, Nat.zero_add, Nat.mul_zero, Nat.reduceAdd, Nat.reduceMul, Nat.reduceSub, ob1_e, ob2_e, ob3_e, ob4_e, ob6_e]⟩
      · obtain ⟨b, e1⟩ := ih (k + 1) n false (by omega) (by omega)
        rw [bz_f] at e1
        exact ⟨b, by rw [bz_t]; simp (disch := omega) only [f_X12_doAllKnow_4, f_X12_doAllKnow, b_X12_doAllKnow_41, b_X12_doAllKnow_40, b_X12_doAllKnow_4, b_X12_doAllKnow_0, e, e1, neg_nI, lit_nI, nI_add, pk_mul, pk_sub, nI_clamp, inB_nI, gd_true, bnd_def, nI_leI, nI_ltI, nI_eq, nI_mI, mI_nI, nle_T, nle_F, nlt_T, nlt_F, neq_T, neq_F, ↓reduceIte, Nat.add_zero, Nat.zero_add, Nat.mul_zero, Nat.reduceAdd, Nat.reduceMul, Nat.reduceSub, ob1_e, ob2_e, ob3_e, ob4_e, ob6_e]⟩
theorem allY_c (hG : G ≤ 6) (m : Nat → Int32) : ∃ b, f_X12_doAllKnow (nI G) m = some (bz b) := by
  obtain ⟨b, e⟩ := allY_l (m := m) hG G 0 fu true (by omega) (by have := fu_le; omega)
  exact ⟨b, e⟩
theorem mp83_l (hY : RiseY R mh mc mv mk mt ms mu) (hG : G ≤ 6) (hM : M ≤ 5) {mr ms0 mf : Int32} {wi : Nat → Int32} (hw : ∀ t, t < G → wi t = nI 9 ∨ ∃ o, o < G ∧ wi t = nI o) : ∀ (j k n : Nat) (lt st m : Nat → Int32), k + j = G → j < n → ∃ lt' st' m', f_X12_meetPairs_83 (nI G) (nI M) mh mc mv mk mt ms mu mg mm n mr ms0 mf lt st m wi (nI k) = some (mr, ms0, mf, lt', st', m', wi) ∧ (∀ i, 69 ≤ i → m' i = m i) := by
  intro j
  induction j with
  | zero =>
    intro k n lt st m hk h1
    obtain ⟨n, rfl⟩ : ∃ q, n = q + 1 := ⟨n - 1, by omega⟩
    exact ⟨lt, st, m, by simp (disch := omega) only [f_X12_meetPairs_83, b_X12_meetPairs_83, neg_nI, lit_nI, nI_add, pk_mul, pk_sub, nI_clamp, inB_nI, gd_true, bnd_def, nI_leI, nI_ltI, nI_eq, nI_mI, mI_nI, nle_T, nle_F, nlt_T, nlt_F, neq_T, neq_F, ↓reduceIte, Nat.add_zero, Nat.zero_add, Nat.mul_zero, Nat.reduceAdd, Nat.reduceMul, Nat.reduceSub, ob1_e, ob2_e, ob3_e, ob4_e, ob6_e], fun _ _ => rfl⟩
  | succ j ih =>
    intro k n lt st m hk h1
    obtain ⟨n, rfl⟩ : ∃ q, n = q + 1 := ⟨n - 1, by omega⟩
    rcases hw k (by omega) with e | ⟨o, ho, e⟩
    · obtain ⟨lt', st', m', r1, r2⟩ := ih (k + 1) n lt st m (by omega) (by omega)
      refine ⟨lt', st', m', ?_, r2⟩
      rw [← r1]
      simp (disch := omega) only [f_X12_meetPairs_83, b_X12_meetPairs_83, b_X12_meetPairs_113, e, neg_nI, lit_nI, nI_add, pk_mul, pk_sub, nI_clamp, inB_nI, gd_true, bnd_def, nI_leI, nI_ltI, nI_eq, nI_mI, mI_nI, nle_T, nle_F, nlt_T, nlt_F, neq_T, neq_F, ↓reduceIte, Nat.add_zero, Nat.zero_add, Nat.mul_zero, Nat.reduceAdd, Nat.reduceMul, Nat.reduceSub, ob1_e, ob2_e, ob3_e, ob4_e, ob6_e]
    · obtain ⟨lt1, st1, m1, p1, p2⟩ := meetY_t (mg := mg) (mm := mm) hY hM (g := k) (o := o) (by omega) (by omega) lt st m
      obtain ⟨lt', st', m', r1, r2⟩ := ih (k + 1) n lt1 st1 m1 (by omega) (by omega)
      refine ⟨lt', st', m', ?_, fun i hi => by rw [r2 i hi, p2 i (by omega)]⟩
      rw [← r1]
      simp (disch := omega) only [f_X12_meetPairs_83, b_X12_meetPairs_83, b_X12_meetPairs_113, e, p1, neg_nI, lit_nI, nI_add, pk_mul, pk_sub, nI_clamp, inB_nI, gd_true, bnd_def, nI_leI, nI_ltI, nI_eq, nI_mI, mI_nI, nle_T, nle_F, nlt_T, nlt_F, neq_T, neq_F, ↓reduceIte, Nat.add_zero, Nat.zero_add, Nat.mul_zero, Nat.reduceAdd, Nat.reduceMul, Nat.reduceSub, ob1_e, ob2_e, ob3_e, ob4_e, ob6_e]
theorem mp16_l (hY : RiseY R mh mc mv mk mt ms mu) (hG : G ≤ 6) (hM : M ≤ 5) (hh : ∀ g, g < G → mg (4 * g) = th g) {mr ms0 mf : Int32} {lt st m : Nat → Int32} : ∀ (k n r : Nat) (wi : Nat → Int32), k ≤ G → k < n → r < 1000000 → DV G th (cnt (thE th m) (nI 0) k) r → (∀ t, k ≤ t → t < G → wi t = nI 9 ∨ ∃ o, o < G ∧ wi t = nI o) → ∃ lt' st' m' wi', f_X12_meetPairs_16 (nI G) (nI M) mh mc mv mk mt ms mu mg mm n mr ms0 mf lt st m wi (nI r) (vm k) = some (mr, ms0, mf, lt', st', m', wi') ∧ (∀ i, 69 ≤ i → m' i = m i) := by
  intro k
  induction k with
  | zero =>
    intro n r wi hk h1 hr hV hw
    obtain ⟨n, rfl⟩ : ∃ q, n = q + 1 := ⟨n - 1, by omega⟩
    obtain ⟨lt', st', m', e1, e2⟩ := mp83_l (mg := mg) (mm := mm) hY hG hM (mr := mr) (ms0 := ms0) (mf := mf) (fun t ht => hw t (by omega) ht) G 0 fu lt st m (by omega) (by have := fu_le; omega)
    refine ⟨lt', st', m', wi, ?_, e2⟩
    rw [← e1]
    simp (disch := omega) only [f_X12_meetPairs_16, b_X12_meetPairs_16, vm_0, m1_lt, neg_nI, lit_nI, nI_add, pk_mul, pk_sub, nI_clamp, inB_nI, gd_true, bnd_def, nI_leI, nI_ltI, nI_eq, nI_mI, mI_nI, nle_T, nle_F, nlt_T, nlt_F, neq_T, neq_F, ↓reduceIte, Nat.add_zero, Nat.zero_add, Nat.mul_zero, Nat.reduceAdd, Nat.reduceMul, Nat.reduceSub, ob1_e, ob2_e, ob3_e, ob4_e, ob6_e]
  | succ k ih =>
    intro n r wi hk h1 hr hV hw
    obtain ⟨n, rfl⟩ : ∃ q, n = q + 1 := ⟨n - 1, by omega⟩
    have g1 := hh k (by omega)
    have er : rem (nI r) (nI 10) = nI (r % 10) := pk_rem (by omega) (by omega) (by omega)
    have ed : nI r / nI 10 = nI (r / 10) := pk_div (by omega) (by omega) (by omega)
    by_cases hE : th k = nI 0 ∧ m (54 + k) = mI 1
    · rw [cnt_y (thE_y hE.1 hE.2)] at hV
      obtain ⟨v1, v2⟩ := hV
      have e0 := hE.1
      have f0 := hE.2
      obtain ⟨lt', st', m', wi', e1, e2⟩ := ih n (r / 10) (upd wi k (nI (r % 10))) (by omega) (by omega) (by omega) v2 (fun t h2 h3 => by
        by_cases e : t = k
        · rw [upd_y e]
          rcases v1 with z | ⟨z, -⟩
          · rw [z]; exact Or.inl rfl
          · exact Or.inr ⟨r % 10, z, rfl⟩
        · rw [upd_n e]
          exact hw t (by omega) h3)
      refine ⟨lt', st', m', wi', ?_, e2⟩
      rw [← e1]
      simp (disch := omega) only [f_X12_meetPairs_16, b_X12_meetPairs_16, b_X12_meetPairs_41, b_X12_meetPairs_42, b_X12_meetPairs_61, b_X12_meetPairs_74, vm_s, vm_m, of_c, g1, e0, isFree_c, f0, er, ed, neg_nI, lit_nI, nI_add, pk_mul, pk_sub, nI_clamp, inB_nI, gd_true, bnd_def, nI_leI, nI_ltI, nI_eq, nI_mI, mI_nI, nle_T, nle_F, nlt_T, nlt_F, neq_T, neq_F, ↓reduceIte, Nat.add_zero, Nat.zero_add, Nat.mul_zero, Nat.reduceAdd, Nat.reduceMul, Nat.reduceSub, ob1_e, ob2_e, ob3_e, ob4_e, ob6_e]
    · rw [cnt_n (thE_n hE)] at hV
      obtain ⟨lt', st', m', wi', e1, e2⟩ := ih n r (upd wi k (nI 9)) (by omega) (by omega) hr hV (fun t h2 h3 => by
        by_cases e : t = k
        · rw [upd_y e]
          exact Or.inl rfl
        · rw [upd_n e]
          exact hw t (by omega) h3)
      refine ⟨lt', st', m', wi', ?_, e2⟩
      rw [← e1]
      by_cases e0 : th k = nI 0
      · have f0 : ¬ m (54 + k) = mI 1 := fun z => hE ⟨e0, z⟩
        simp (disch := omega) only [f_X12_meetPairs_16, b_X12_meetPairs_16, b_X12_meetPairs_41, b_X12_meetPairs_42, b_X12_meetPairs_61, b_X12_meetPairs_74, vm_s, vm_m, of_c, g1, e0, isFree_c, f0, neg_nI, lit_nI, nI_add, pk_mul, pk_sub, nI_clamp, inB_nI, gd_true, bnd_def, nI_leI, nI_ltI, nI_eq, nI_mI, mI_nI, nle_T, nle_F, nlt_T, nlt_F, neq_T, neq_F, ↓reduceIte, Nat.add_zero, Nat.zero_add, Nat.mul_zero, Nat.reduceAdd, Nat.reduceMul, Nat.reduceSub, ob1_e, ob2_e, ob3_e, ob4_e, ob6_e]
      · simp (disch := omega) only [f_X12_meetPairs_16, b_X12_meetPairs_16, b_X12_meetPairs_41, b_X12_meetPairs_42, b_X12_meetPairs_61, b_X12_meetPairs_74, vm_s, vm_m, of_c, g1, e0, neg_nI, lit_nI, nI_add, pk_mul, pk_sub, nI_clamp, inB_nI, gd_true, bnd_def, nI_leI, nI_ltI, nI_eq, nI_mI, mI_nI, nle_T, nle_F, nlt_T, nlt_F, neq_T, neq_F, ↓reduceIte, Nat.add_zero, Nat.zero_add, Nat.mul_zero, Nat.reduceAdd, Nat.reduceMul, Nat.reduceSub, ob1_e, ob2_e, ob3_e, ob4_e, ob6_e]
theorem mp_c (hX : RiseX R lh ll l0 l1 l2 l3) (hY : RiseY R mh mc mv mk mt ms mu) (hG : G ≤ 6) (hM : M ≤ 5) (hh : ∀ g, g < G → mg (4 * g) = th g) (ha : ∀ g, g < G → mg (4 * g + 3) = ta g) (h01 : ∀ g, g < G → th g = nI 0 ∨ th g = nI 1) (mr ms0 mf : Int32) (lt st m wi : Nat → Int32) : ∃ mr' ms0' lt' st' m' wi', f_X12_meetPairs (nI G) (nI M) mh mc mv mk mt ms mu mg mm mr ms0 mf lt st m wi = some (mr', ms0', nI 1, lt', st', m', wi') ∧ (∀ i, 69 ≤ i → m' i = m i) := by
  obtain ⟨-, -, bs', b', -, -, lt2, st2, -, e2, v1, v2⟩ := lay_c (lt := lt) (st := st) (un := lt) (ri := lt) (sz := nI 0) (bs := nI 0) (br := nI 0) (fd := nI 0) hX hY hG hh ha h01 (RN.refl G M m) lt st mr ms0 mf
  obtain ⟨lt', st', m', wi', e1, e3⟩ := mp16_l (mg := mg) (mm := mm) hY hG hM hh (mr := nI b') (ms0 := bs') (mf := nI 1) (lt := lt2) (st := st2) (m := m) G fu b' wi (by omega) (by have := fu_le; omega) v2 v1 (fun t h1 h2 => by omega)
  refine ⟨nI b', bs', lt', st', m', wi', ?_, e3⟩
  rw [← e1]
  simp (disch := omega) only [f_X12_meetPairs, b_X12_meetPairs_0, e2, ob5_e, bnd_def, lit_nI, vm_1]
theorem ky71_l {v1 : Int32} {as : Nat → Int32} {mr ms0 mf : Int32} {lt st wi : Nat → Int32} {b : Bool} : ∀ (j k n : Nat) (m : Nat → Int32), k + j = 69 → j < n → ∃ r m', f_X12_allKnow_71 (nI G) (nI M) mh mc mv mk mt ms mu mg mm n mr ms0 mf lt st m wi as v1 (bz b) (nI k) = some (r, mr, ms0, mf, lt, st, m', wi, as) ∧ (∀ i, k ≤ i → i < 69 → m' i = as i) ∧ (∀ i, i < k ∨ 69 ≤ i → m' i = m i) := by
  intro j
  induction j with
  | zero =>
    intro k n m hk h1
    obtain ⟨n, rfl⟩ : ∃ q, n = q + 1 := ⟨n - 1, by omega⟩
    cases b with
    | true => exact ⟨v1, m, by rw [bz_t]; simp (disch := omega) only [f_X12_allKnow_71, b_X12_allKnow_71, neg_nI, lit_nI, nI_add, pk_mul, pk_sub, nI_clamp, inB_nI, gd_true, bnd_def, nI_leI, nI_ltI, nI_eq, nI_mI, mI_nI, nle_T, nle_F, nlt_T, nlt_F, neq_T, neq_F, ↓reduceIte, Nat.add_zero, Nat.zero_add, Nat.mul_zero, Nat.reduceAdd, Nat.reduceMul, Nat.reduceSub, ob1_e, ob2_e, ob3_e, ob4_e, ob6_e], fun i h2 h3 => by omega, fun _ _ => rfl⟩
    | false => exact ⟨mI 1, m, by rw [bz_f]; simp (disch := omega) only [f_X12_allKnow_71, b_X12_allKnow_71, neg_nI, lit_nI, nI_add, pk_mul, pk_sub, nI_clamp, inB_nI, gd_true, bnd_def, nI_leI, nI_ltI, nI_eq, nI_mI, mI_nI, nle_T, nle_F, nlt_T, nlt_F, neq_T, neq_F, ↓reduceIte, Nat.add_zero, Nat.zero_add, Nat.mul_zero, Nat.reduceAdd, Nat.reduceMul, Nat.reduceSub, ob1_e, ob2_e, ob3_e, ob4_e, ob6_e], fun i h2 h3 => by omega, fun _ _ => rfl⟩
  | succ j ih =>
    intro k n m hk h1
    obtain ⟨n, rfl⟩ : ∃ q, n = q + 1 := ⟨n - 1, by omega⟩
    obtain ⟨r, m', e1, e2, e3⟩ := ih (k + 1) n (upd m k (as k)) (by omega) (by omega)
    refine ⟨r, m', ?_, fun i h2 h3 => ?_, fun i hi => ?_⟩
    · rw [← e1]
      simp (disch := omega) only [f_X12_allKnow_71, b_X12_allKnow_71, neg_nI, lit_nI, nI_add, pk_mul, pk_sub, nI_clamp, inB_nI, gd_true, bnd_def, nI_leI, nI_ltI, nI_eq, nI_mI, mI_nI, nle_T, nle_F, nlt_T, nlt_F, neq_T, neq_F, ↓reduceIte, Nat.add_zero, Nat.zero_add, Nat.mul_zero, Nat.reduceAdd, Nat.reduceMul, Nat.reduceSub, ob1_e, ob2_e, ob3_e, ob4_e, ob6_e]
    · by_cases e : i = k
      · rw [e, e3 k (by omega), upd_y rfl]
      · exact e2 i (by omega) h3
    · rw [e3 i (by omega), upd_n (by omega)]
theorem ky37_l (hX : RiseX R lh ll l0 l1 l2 l3) (hY : RiseY R mh mc mv mk mt ms mu) (hG : G ≤ 6) (hM : M ≤ 5) (hh : ∀ g, g < G → mg (4 * g) = th g) (ha : ∀ g, g < G → mg (4 * g + 3) = ta g) (h01 : ∀ g, g < G → th g = nI 0 ∨ th g = nI 1) {as : Nat → Int32} : ∀ (j k n : Nat) (mr ms0 mf : Int32) (lt st m wi : Nat → Int32), k + j = 30 → j < n → isZ mf = true → ∃ r mr' ms0' mf' lt' st' m' wi', f_X12_allKnow_37 (nI G) (nI M) mh mc mv mk mt ms mu mg mm n mr ms0 mf lt st m wi as (nI k) = some (r, mr', ms0', mf', lt', st', m', wi', as) ∧ (∀ i, i < 69 → m' i = as i) ∧ (∀ i, 69 ≤ i → m' i = m i) ∧ isZ mf' = true := by
  intro j
  induction j with
  | zero =>
    intro k n mr ms0 mf lt st m wi hk h1 hz
    obtain ⟨n, rfl⟩ : ∃ q, n = q + 1 := ⟨n - 1, by omega⟩
    obtain ⟨b, hb⟩ := allY_c hG m
    obtain ⟨r, m', e1, e2, e3⟩ := ky71_l (G := G) (M := M) (mh := mh) (mc := mc) (mv := mv) (mk := mk) (mt := mt) (ms := ms) (mu := mu) (mg := mg) (mm := mm) (v1 := nI k) (as := as) (mr := mr) (ms0 := ms0) (mf := mf) (lt := lt) (st := st) (wi := wi) (b := b) 69 0 fu m (by omega) (by have := fu_le; omega)
    refine ⟨r, mr, ms0, mf, lt, st, m', wi, ?_, fun i hi => e2 i (by omega) hi, fun i hi => e3 i (by omega), hz⟩
    rw [← e1]
    simp (disch := omega) only [f_X12_allKnow_37, b_X12_allKnow_37, b_X12_allKnow_64, hb, neg_nI, lit_nI, nI_add, pk_mul, pk_sub, nI_clamp, inB_nI, gd_true, bnd_def, nI_leI, nI_ltI, nI_eq, nI_mI, mI_nI, nle_T, nle_F, nlt_T, nlt_F, neq_T, neq_F, ↓reduceIte, Nat.add_zero, Nat.zero_add, Nat.mul_zero, Nat.reduceAdd, Nat.reduceMul, Nat.reduceSub, ob1_e, ob2_e, ob3_e, ob4_e, ob6_e]
  | succ j ih =>
    intro k n mr ms0 mf lt st m wi hk h1 hz
    obtain ⟨n, rfl⟩ : ∃ q, n = q + 1 := ⟨n - 1, by omega⟩
    obtain ⟨b, hb⟩ := allY_c hG m
    cases b with
    | true =>
      obtain ⟨r, m', e1, e2, e3⟩ := ky71_l (G := G) (M := M) (mh := mh) (mc := mc) (mv := mv) (mk := mk) (mt := mt) (ms := ms) (mu := mu) (mg := mg) (mm := mm) (v1 := nI k) (as := as) (mr := mr) (ms0 := ms0) (mf := mf) (lt := lt) (st := st) (wi := wi) (b := true) 69 0 fu m (by omega) (by have := fu_le; omega)
      refine ⟨r, mr, ms0, mf, lt, st, m', wi, ?_, fun i hi => e2 i (by omega) hi, fun i hi => e3 i (by omega), hz⟩
      rw [bz_t] at e1 hb
      rw [← e1]
      simp (disch := omega) only [f_X12_allKnow_37, b_X12_allKnow_37, b_X12_allKnow_64, hb, neg_nI, lit_nI, nI_add, pk_mul, pk_sub, nI_clamp, inB_nI, gd_true, bnd_def, nI_leI, nI_ltI, nI_eq, nI_mI, mI_nI, nle_T, nle_F, nlt_T, nlt_F, neq_T, neq_F, ↓reduceIte, Nat.add_zero, Nat.zero_add, Nat.mul_zero, Nat.reduceAdd, Nat.reduceMul, Nat.reduceSub, ob1_e, ob2_e, ob3_e, ob4_e, ob6_e]
    | false =>
      obtain ⟨mr1, ms1, lt1, st1, m1, wi1, p1, p2⟩ := mp_c (mm := mm) (M := M) hX hY hG hM hh ha h01 mr ms0 mf lt st m wi
      obtain ⟨m2, p3, p4⟩ := liveY_t (mg := mg) hG m1
      obtain ⟨r, mr', ms0', mf', lt', st', m', wi', e1, e2, e3, e4⟩ := ih (k + 1) n mr1 ms1 (nI 1) lt1 st1 m2 wi1 (by omega) (by omega) rfl
      refine ⟨r, mr', ms0', mf', lt', st', m', wi', ?_, e2, fun i hi => by rw [e3 i hi, p4 i hi, p2 i hi], e4⟩
      rw [bz_f] at hb
      rw [← e1]
      simp (disch := omega) only [f_X12_allKnow_37, b_X12_allKnow_37, b_X12_allKnow_64, hb, p1, ob7_e, p3, neg_nI, lit_nI, nI_add, pk_mul, pk_sub, nI_clamp, inB_nI, gd_true, bnd_def, nI_leI, nI_ltI, nI_eq, nI_mI, mI_nI, nle_T, nle_F, nlt_T, nlt_F, neq_T, neq_F, ↓reduceIte, Nat.add_zero, Nat.zero_add, Nat.mul_zero, Nat.reduceAdd, Nat.reduceMul, Nat.reduceSub, ob1_e, ob2_e, ob3_e, ob4_e, ob6_e]
theorem ky11_l {mr ms0 mf : Int32} {lt st m wi : Nat → Int32} : ∀ (j k n : Nat) (as : Nat → Int32), k + j = 69 → j < n → ∃ as', f_X12_allKnow_11 (nI G) (nI M) mh mc mv mk mt ms mu mg mm n mr ms0 mf lt st m wi as (nI k) = f_X12_allKnow_37 (nI G) (nI M) mh mc mv mk mt ms mu mg mm fu mr ms0 mf lt st m wi as' (nI 0) ∧ (∀ i, k ≤ i → i < 69 → as' i = m i) ∧ (∀ i, i < k → as' i = as i) := by
  intro j
  induction j with
  | zero =>
    intro k n as hk h1
    obtain ⟨n, rfl⟩ : ∃ q, n = q + 1 := ⟨n - 1, by omega⟩
    exact ⟨as, by simp (disch := omega) only [f_X12_allKnow_11, b_X12_allKnow_11, neg_nI, lit_nI, nI_add, pk_mul, pk_sub, nI_clamp, inB_nI, gd_true, bnd_def, nI_leI, nI_ltI, nI_eq, nI_mI, mI_nI, nle_T, nle_F, nlt_T, nlt_F, neq_T, neq_F, ↓reduceIte, Nat.add_zero, Nat.zero_add, Nat.mul_zero, Nat.reduceAdd, Nat.reduceMul, Nat.reduceSub, ob1_e, ob2_e, ob3_e, ob4_e, ob6_e], fun i h2 h3 => by omega, fun _ _ => rfl⟩
  | succ j ih =>
    intro k n as hk h1
    obtain ⟨n, rfl⟩ : ∃ q, n = q + 1 := ⟨n - 1, by omega⟩
    obtain ⟨as', e1, e2, e3⟩ := ih (k + 1) n (upd as k (m k)) (by omega) (by omega)
    refine ⟨as', ?_, fun i h2 h3 => ?_, fun i hi => ?_⟩
    · rw [← e1]
      simp (disch := omega) only [f_X12_allKnow_11, b_X12_allKnow_11, neg_nI, lit_nI, nI_add, pk_mul, pk_sub, nI_clamp, inB_nI, gd_true, bnd_def, nI_leI, nI_ltI, nI_eq, nI_mI, mI_nI, nle_T, nle_F, nlt_T, nlt_F, neq_T, neq_F, ↓reduceIte, Nat.add_zero, Nat.zero_add, Nat.mul_zero, Nat.reduceAdd, Nat.reduceMul, Nat.reduceSub, ob1_e, ob2_e, ob3_e, ob4_e, ob6_e]
    · by_cases e : i = k
      · rw [e, e3 k (by omega), upd_y rfl]
      · exact e2 i (by omega) h3
    · rw [e3 i (by omega), upd_n (by omega)]
theorem s_knowY (hX : RiseX R lh ll l0 l1 l2 l3) (hY : RiseY R mh mc mv mk mt ms mu) (hG : G ≤ 6) (hM : M ≤ 5) (hh : ∀ g, g < G → mg (4 * g) = th g) (ha : ∀ g, g < G → mg (4 * g + 3) = ta g) (h01 : ∀ g, g < G → th g = nI 0 ∨ th g = nI 1) (mr ms0 mf : Int32) (lt st m wi as : Nat → Int32) (hz : isZ mf = true) : ∃ r mr' ms0' mf' lt' st' m' wi' as', f_X12_allKnow (nI G) (nI M) mh mc mv mk mt ms mu mg mm mr ms0 mf lt st m wi as = some (r, mr', ms0', mf', lt', st', m', wi', as') ∧ (∀ i, i < 250 → m' i = m i) ∧ isZ mf' = true := by
  by_cases g0 : G = 0
  · refine ⟨mI 1, mr, ms0, mf, lt, st, m, wi, as, ?_, fun _ _ => rfl, hz⟩
    simp (disch := omega) only [f_X12_allKnow, b_X12_allKnow_0, neg_nI, lit_nI, nI_add, pk_mul, pk_sub, nI_clamp, inB_nI, gd_true, bnd_def, nI_leI, nI_ltI, nI_eq, nI_mI, mI_nI, nle_T, nle_F, nlt_T, nlt_F, neq_T, neq_F, ↓reduceIte, Nat.add_zero, Nat.zero_add, Nat.mul_zero, Nat.reduceAdd, Nat.reduceMul, Nat.reduceSub, ob1_e, ob2_e, ob3_e, ob4_e, ob6_e]
  · obtain ⟨as', e1, e2, -⟩ := ky11_l (G := G) (M := M) (mh := mh) (mc := mc) (mv := mv) (mk := mk) (mt := mt) (ms := ms) (mu := mu) (mg := mg) (mm := mm) (mr := mr) (ms0 := ms0) (mf := mf) (lt := lt) (st := st) (m := m) (wi := wi) 69 0 fu as (by omega) (by have := fu_le; omega)
    obtain ⟨r, mr', ms0', mf', lt', st', m', wi', x1, x2, x3, x4⟩ := ky37_l (mm := mm) (M := M) hX hY hG hM hh ha h01 (as := as') 30 0 fu mr ms0 mf lt st m wi (by omega) (by have := fu_le; omega) hz
    refine ⟨r, mr', ms0', mf', lt', st', m', wi', as', ?_, fun i hi => ?_, x4⟩
    · rw [← x1, ← e1]
      simp (disch := omega) only [f_X12_allKnow, b_X12_allKnow_0, neg_nI, lit_nI, nI_add, pk_mul, pk_sub, nI_clamp, inB_nI, gd_true, bnd_def, nI_leI, nI_ltI, nI_eq, nI_mI, mI_nI, nle_T, nle_F, nlt_T, nlt_F, neq_T, neq_F, ↓reduceIte, Nat.add_zero, Nat.zero_add, Nat.mul_zero, Nat.reduceAdd, Nat.reduceMul, Nat.reduceSub, ob1_e, ob2_e, ob3_e, ob4_e, ob6_e]
    · by_cases h : i < 69
      · rw [x2 i h, e2 i (by omega) h]
      · exact x3 i (by omega)
end KY
