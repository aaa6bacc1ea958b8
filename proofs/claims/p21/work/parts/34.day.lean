/-! a day goes by -/
theorem hd_c {w : Nat} (h : w ≤ 99) : hd (nI w) = nI w := by
  show (if nI 0 < (if nI w < nI 99 then nI w else nI 99) then (if nI w < nI 99 then nI w else nI 99) else nI 0) = nI w
  by_cases e : w = 99
  · rw [e]
    decide +kernel
  · by_cases e0 : w = 0
    · rw [e0]
      decide +kernel
    · rw [if_pos (nI_lt (a := w) (b := 99) (by omega) (by omega)), if_pos (nI_lt (a := 0) (b := w) (by omega) (by omega))]
theorem hd_m {w : Nat} (h : w ≤ 99) : hd (nI w - nI 1) = nI (w - 1) := by
  by_cases e0 : w = 0
  · rw [e0]
    decide +kernel
  · rw [pk_sub (by omega), hd_c (by omega)]
theorem le0_c {w : Nat} (h : w ≤ 99) : (nI w ≤ nI 0) = (w ≤ 0) := propext (nI_leI (by omega) (by omega))
theorem cool_in {G M a : Nat} {th mg : Nat → Int32} (hG : G ≤ 6) (ha : a < G) (hh : ∀ g, g < G → mg (4 * g) = th g) {k k' : (Nat → Int32) → Int32 → Option (Nat → Int32)} : ∀ (j b n n' : Nat) (c m : Nat → Int32), b + j = G → a < b → j < n → j < n' → RN G M c m → IV G th c → ∃ c' m', f_X9_cool_17 (nI G) k n c (nI a) (nI b) = k c' (nI (a + 1)) ∧ f_X12_cool_14 (nI G) mg k' n' m (nI a) (nI b) = k' m' (nI (a + 1)) ∧ RN G M c' m' ∧ IV G th c' ∧ (∀ i, 36 ≤ i → c' i = c i) ∧ (∀ i, 36 ≤ i → m' i = m i) := by
  intro j
  induction j with
  | zero =>
    intro b n n' c m hb hab h1 h2 hN hI
    obtain ⟨n, rfl⟩ : ∃ q, n = q + 1 := ⟨n - 1, by omega⟩
    obtain ⟨n', rfl⟩ : ∃ q, n' = q + 1 := ⟨n' - 1, by omega⟩
    refine ⟨c, m, ?_, ?_, hN, hI, fun _ _ => rfl, fun _ _ => rfl⟩
    · simp (disch := omega) only [f_X9_cool_17, b_X9_cool_17, neg_nI, lit_nI, nI_add, pk_mul, pk_sub, nI_clamp, inB_nI, gd_true, bnd_def, nI_leI, nI_ltI, nI_eq, nI_mI, mI_nI, nle_T, nle_F, nlt_T, nlt_F, neq_T, neq_F, ↓reduceIte, Nat.add_zero, Nat.zero_add, Nat.mul_zero, Nat.reduceAdd, Nat.reduceMul, Nat.reduceSub, ob1_e, ob2_e, ob3_e, ob4_e, ob6_e]
    · simp (disch := omega) only [f_X12_cool_14, b_X12_cool_14, neg_nI, lit_nI, nI_add, pk_mul, pk_sub, nI_clamp, inB_nI, gd_true, bnd_def, nI_leI, nI_ltI, nI_eq, nI_mI, mI_nI, nle_T, nle_F, nlt_T, nlt_F, neq_T, neq_F, ↓reduceIte, Nat.add_zero, Nat.zero_add, Nat.mul_zero, Nat.reduceAdd, Nat.reduceMul, Nat.reduceSub, ob1_e, ob2_e, ob3_e, ob4_e, ob6_e]
  | succ j ih =>
    intro b n n' c m hb hab h1 h2 hN hI
    obtain ⟨n, rfl⟩ : ∃ q, n = q + 1 := ⟨n - 1, by omega⟩
    obtain ⟨n', rfl⟩ : ∃ q, n' = q + 1 := ⟨n' - 1, by omega⟩
    have hp := pl_lt (a := a) (b := b) ⟨by omega, by omega⟩
    have e1 : m (54 + a) = c (54 + a) := hN _ (by omega)
    have e2 : m (pl a b) = c (pl a b) := hN _ (by omega)
    have g1 := hh a ha
    have g2 := hh b (by omega)
    obtain ⟨w, hw, ew, hz⟩ := hI.1 (pl a b) hp
    by_cases hs : c (54 + a) = nI b
    · obtain ⟨c', m', r1, r2, r3⟩ := ih (b + 1) n n' c m (by omega) (by omega) (by omega) (by omega) hN hI
      refine ⟨c', m', ?_, ?_, r3⟩
      · rw [← r1]
        simp (disch := omega) only [f_X9_cool_17, b_X9_cool_17, b_X9_cool_66, placeOf_c, hs, neg_nI, lit_nI, nI_add, pk_mul, pk_sub, nI_clamp, inB_nI, gd_true, bnd_def, nI_leI, nI_ltI, nI_eq, nI_mI, mI_nI, nle_T, nle_F, nlt_T, nlt_F, neq_T, neq_F, ↓reduceIte, Nat.add_zero, Nat.zero_add, Nat.mul_zero, Nat.reduceAdd, Nat.reduceMul, Nat.reduceSub, ob1_e, ob2_e, ob3_e, ob4_e, ob6_e]
      · rw [← r2]
        by_cases ht : th a = th b <;> simp (disch := omega) only [f_X12_cool_14, b_X12_cool_14, b_X12_cool_69, areTwo_c, g1, g2, ht, e1, hs, neg_nI, lit_nI, nI_add, pk_mul, pk_sub, nI_clamp, inB_nI, gd_true, bnd_def, nI_leI, nI_ltI, nI_eq, nI_mI, mI_nI, nle_T, nle_F, nlt_T, nlt_F, neq_T, neq_F, ↓reduceIte, Nat.add_zero, Nat.zero_add, Nat.mul_zero, Nat.reduceAdd, Nat.reduceMul, Nat.reduceSub, ob1_e, ob2_e, ob3_e, ob4_e, ob6_e]
    · by_cases ht : th a = th b
      · have hw0 : w = 0 := by
          rcases hz with hz | ⟨x, y, hxy, hy, hn, e⟩
          · exact hz
          · obtain ⟨q1, q2⟩ := pl_inj a (by omega) b (by omega) hab x (by omega) y (by omega) hxy e
            rw [← q1, ← q2] at hn
            exact absurd ht hn
        obtain ⟨c', m', r1, r2, r3⟩ := ih (b + 1) n n' c m (by omega) (by omega) (by omega) (by omega) hN hI
        refine ⟨c', m', ?_, ?_, r3⟩
        · rw [← r1]
          simp (disch := omega) only [f_X9_cool_17, b_X9_cool_17, b_X9_cool_66, placeOf_c, inB_pl, pl_clamp, hs, ew, hw0, neg_nI, lit_nI, nI_add, pk_mul, pk_sub, nI_clamp, inB_nI, gd_true, bnd_def, nI_leI, nI_ltI, nI_eq, nI_mI, mI_nI, nle_T, nle_F, nlt_T, nlt_F, neq_T, neq_F, ↓reduceIte, Nat.add_zero, Nat.zero_add, Nat.mul_zero, Nat.reduceAdd, Nat.reduceMul, Nat.reduceSub, ob1_e, ob2_e, ob3_e, ob4_e, ob6_e]
        · rw [← r2]
          simp (disch := omega) only [f_X12_cool_14, b_X12_cool_14, b_X12_cool_69, areTwo_c, g1, g2, ht, neg_nI, lit_nI, nI_add, pk_mul, pk_sub, nI_clamp, inB_nI, gd_true, bnd_def, nI_leI, nI_ltI, nI_eq, nI_mI, mI_nI, nle_T, nle_F, nlt_T, nlt_F, neq_T, neq_F, ↓reduceIte, Nat.add_zero, Nat.zero_add, Nat.mul_zero, Nat.reduceAdd, Nat.reduceMul, Nat.reduceSub, ob1_e, ob2_e, ob3_e, ob4_e, ob6_e]
      · by_cases hw0 : w = 0
        · have hN2 : RN G M c (upd m (pl a b) (nI 0)) := by
            intro i hi
            by_cases e : i = pl a b
            · rw [upd_y e, e, ew, hw0]
            · rw [upd_n e]
              exact hN i hi
          obtain ⟨c', m', r1, r2, r3, r4, r5, r6⟩ := ih (b + 1) n n' c (upd m (pl a b) (nI 0)) (by omega) (by omega) (by omega) (by omega) hN2 hI
          refine ⟨c', m', ?_, ?_, r3, r4, r5, fun i hi => by rw [r6 i hi, upd_n (by omega)]⟩
          · rw [← r1]
            simp (disch := omega) only [f_X9_cool_17, b_X9_cool_17, b_X9_cool_66, placeOf_c, inB_pl, pl_clamp, hs, ew, hw0, neg_nI, lit_nI, nI_add, pk_mul, pk_sub, nI_clamp, inB_nI, gd_true, bnd_def, nI_leI, nI_ltI, nI_eq, nI_mI, mI_nI, nle_T, nle_F, nlt_T, nlt_F, neq_T, neq_F, ↓reduceIte, Nat.add_zero, Nat.zero_add, Nat.mul_zero, Nat.reduceAdd, Nat.reduceMul, Nat.reduceSub, ob1_e, ob2_e, ob3_e, ob4_e, ob6_e]
          · rw [← r2]
            have e9 : hd (nI 0 - nI 1) = nI 0 := hd_m (w := 0) (by omega)
            simp (disch := omega) only [f_X12_cool_14, b_X12_cool_14, b_X12_cool_69, areTwo_c, pairAt_c, inB_pl, pl_clamp, held_c, g1, g2, ht, e1, e2, hs, ew, hw0, e9, neg_nI, lit_nI, nI_add, pk_mul, pk_sub, nI_clamp, inB_nI, gd_true, bnd_def, nI_leI, nI_ltI, nI_eq, nI_mI, mI_nI, nle_T, nle_F, nlt_T, nlt_F, neq_T, neq_F, ↓reduceIte, Nat.add_zero, Nat.zero_add, Nat.mul_zero, Nat.reduceAdd, Nat.reduceMul, Nat.reduceSub, ob1_e, ob2_e, ob3_e, ob4_e, ob6_e]
        · have hI2 : IV G th (upd c (pl a b) (nI (w - 1))) := by
            have := hI.warm hG ha (show b < G by omega) ht (nI (w - 1))
            rw [hd_c (by omega)] at this
            exact this
          obtain ⟨c', m', r1, r2, r3, r4, r5, r6⟩ := ih (b + 1) n n' (upd c (pl a b) (nI (w - 1))) (upd m (pl a b) (nI (w - 1))) (by omega) (by omega) (by omega) (by omega) (hN.put _ _) hI2
          refine ⟨c', m', ?_, ?_, r3, r4, fun i hi => by rw [r5 i hi, upd_n (by omega)], fun i hi => by rw [r6 i hi, upd_n (by omega)]⟩
          · rw [← r1]
            simp (disch := omega) only [f_X9_cool_17, b_X9_cool_17, b_X9_cool_66, placeOf_c, inB_pl, pl_clamp, hs, ew, neg_nI, lit_nI, nI_add, pk_mul, pk_sub, nI_clamp, inB_nI, gd_true, bnd_def, nI_leI, nI_ltI, nI_eq, nI_mI, mI_nI, nle_T, nle_F, nlt_T, nlt_F, neq_T, neq_F, ↓reduceIte, Nat.add_zero, Nat.zero_add, Nat.mul_zero, Nat.reduceAdd, Nat.reduceMul, Nat.reduceSub, ob1_e, ob2_e, ob3_e, ob4_e, ob6_e]
          · rw [← r2]
            simp (disch := omega) only [f_X12_cool_14, b_X12_cool_14, b_X12_cool_69, areTwo_c, pairAt_c, inB_pl, pl_clamp, held_c, g1, g2, ht, e1, e2, hs, ew, hd_c, neg_nI, lit_nI, nI_add, pk_mul, pk_sub, nI_clamp, inB_nI, gd_true, bnd_def, nI_leI, nI_ltI, nI_eq, nI_mI, mI_nI, nle_T, nle_F, nlt_T, nlt_F, neq_T, neq_F, ↓reduceIte, Nat.add_zero, Nat.zero_add, Nat.mul_zero, Nat.reduceAdd, Nat.reduceMul, Nat.reduceSub, ob1_e, ob2_e, ob3_e, ob4_e, ob6_e]
theorem cool_out {G M : Nat} {th mg : Nat → Int32} (hG : G ≤ 6) (hh : ∀ g, g < G → mg (4 * g) = th g) : ∀ (j a n n' : Nat) (c m : Nat → Int32), a + j = G → j < n → j < n' → RN G M c m → IV G th c → ∃ c' m', f_X9_cool_2 (nI G) n c (nI a) = some (upd c' 67 (mn (nI 999) (c' 67 + nI 2))) ∧ f_X12_cool_2 (nI G) mg n' m (nI a) = some m' ∧ RN G M c' m' ∧ IV G th c' ∧ (∀ i, 36 ≤ i → c' i = c i) ∧ (∀ i, 36 ≤ i → m' i = m i) := by
  intro j
  induction j with
  | zero =>
    intro a n n' c m hb h1 h2 hN hI
    obtain ⟨n, rfl⟩ : ∃ q, n = q + 1 := ⟨n - 1, by omega⟩
    obtain ⟨n', rfl⟩ : ∃ q, n' = q + 1 := ⟨n' - 1, by omega⟩
    refine ⟨c, m, ?_, ?_, hN, hI, fun _ _ => rfl, fun _ _ => rfl⟩
    · simp (disch := omega) only [f_X9_cool_2, b_X9_cool_2, neg_nI, lit_nI, nI_add, pk_mul, pk_sub, nI_clamp, inB_nI, gd_true, bnd_def, nI_leI, nI_ltI, nI_eq, nI_mI, mI_nI, nle_T, nle_F, nlt_T, nlt_F, neq_T, neq_F, ↓reduceIte, Nat.add_zero, Nat.zero_add, Nat.mul_zero, Nat.reduceAdd, Nat.reduceMul, Nat.reduceSub, ob1_e, ob2_e, ob3_e, ob4_e, ob6_e]
    · simp (disch := omega) only [f_X12_cool_2, b_X12_cool_2, neg_nI, lit_nI, nI_add, pk_mul, pk_sub, nI_clamp, inB_nI, gd_true, bnd_def, nI_leI, nI_ltI, nI_eq, nI_mI, mI_nI, nle_T, nle_F, nlt_T, nlt_F, neq_T, neq_F, ↓reduceIte, Nat.add_zero, Nat.zero_add, Nat.mul_zero, Nat.reduceAdd, Nat.reduceMul, Nat.reduceSub, ob1_e, ob2_e, ob3_e, ob4_e, ob6_e]
  | succ j ih =>
    intro a n n' c m hb h1 h2 hN hI
    obtain ⟨n, rfl⟩ : ∃ q, n = q + 1 := ⟨n - 1, by omega⟩
    obtain ⟨n', rfl⟩ : ∃ q, n' = q + 1 := ⟨n' - 1, by omega⟩
    obtain ⟨c1, m1, p1, p2, p3, p4, p5, p6⟩ := cool_in (G := G) (M := M) (a := a) (th := th) (mg := mg) hG (by omega) hh (k := f_X9_cool_2 (nI G) n) (k' := f_X12_cool_2 (nI G) mg n') (G - (a + 1)) (a + 1) fu fu c m (by omega) (by omega) (by have := fu_le; omega) (by have := fu_le; omega) hN hI
    obtain ⟨c', m', r1, r2, r3, r4, r5, r6⟩ := ih (a + 1) n n' c1 m1 (by omega) (by omega) (by omega) p3 p4
    refine ⟨c', m', ?_, ?_, r3, r4, fun i hi => by rw [r5 i hi, p5 i hi], fun i hi => by rw [r6 i hi, p6 i hi]⟩
    · rw [← r1, ← p1]
      simp (disch := omega) only [f_X9_cool_2, b_X9_cool_2, neg_nI, lit_nI, nI_add, pk_mul, pk_sub, nI_clamp, inB_nI, gd_true, bnd_def, nI_leI, nI_ltI, nI_eq, nI_mI, mI_nI, nle_T, nle_F, nlt_T, nlt_F, neq_T, neq_F, ↓reduceIte, Nat.add_zero, Nat.zero_add, Nat.mul_zero, Nat.reduceAdd, Nat.reduceMul, Nat.reduceSub, ob1_e, ob2_e, ob3_e, ob4_e, ob6_e]
    · rw [← r2, ← p2]
      simp (disch := omega) only [f_X12_cool_2, b_X12_cool_2, neg_nI, lit_nI, nI_add, pk_mul, pk_sub, nI_clamp, inB_nI, gd_true, bnd_def, nI_leI, nI_ltI, nI_eq, nI_mI, mI_nI, nle_T, nle_F, nlt_T, nlt_F, neq_T, neq_F, ↓reduceIte, Nat.add_zero, Nat.zero_add, Nat.mul_zero, Nat.reduceAdd, Nat.reduceMul, Nat.reduceSub, ob1_e, ob2_e, ob3_e, ob4_e, ob6_e]
theorem dawn_in : ∀ (j k n : Nat) (c : Nat → Int32), k + j = 6 → j < n → ∃ c', f_X9_dawn_2 n c (nI k) = some c' ∧ (∀ i, 54 + k ≤ i ∧ i < 60 → c' i = mI 1) ∧ c' 65 = nI 0 ∧ c' 68 = c 68 + nI 1 ∧ (∀ i, (i < 54 + k ∨ 60 ≤ i) → i ≠ 65 → i ≠ 68 → c' i = c i) := by
  intro j
  induction j with
  | zero =>
    intro k n c hk h1
    obtain ⟨n, rfl⟩ : ∃ q, n = q + 1 := ⟨n - 1, by omega⟩
    refine ⟨upd (upd c 65 (nI 0)) 68 (upd c 65 (nI 0) 68 + nI 1), ?_, fun i hi => by omega, ?_, ?_, fun i h2 h3 h4 => ?_⟩
    · simp (disch := omega) only [f_X9_dawn_2, b_X9_dawn_2, neg_nI, lit_nI, nI_add, pk_mul, pk_sub, nI_clamp, inB_nI, gd_true, bnd_def, nI_leI, nI_ltI, nI_eq, nI_mI, mI_nI, nle_T, nle_F, nlt_T, nlt_F, neq_T, neq_F, ↓reduceIte, Nat.add_zero, Nat.zero_add, Nat.mul_zero, Nat.reduceAdd, Nat.reduceMul, Nat.reduceSub, ob1_e, ob2_e, ob3_e, ob4_e, ob6_e]
    · rw [upd_n (by omega), upd_y rfl]
    · rw [upd_y rfl, upd_n (by omega)]
    · rw [upd_n h4, upd_n h3]
  | succ j ih =>
    intro k n c hk h1
    obtain ⟨n, rfl⟩ : ∃ q, n = q + 1 := ⟨n - 1, by omega⟩
    obtain ⟨c', r1, r2, r3, r4, r5⟩ := ih (k + 1) n (upd c (54 + k) (mI 1)) (by omega) (by omega)
    refine ⟨c', ?_, fun i hi => ?_, r3, ?_, fun i h2 h3 h4 => ?_⟩
    · rw [← r1]
      simp (disch := omega) only [f_X9_dawn_2, b_X9_dawn_2, neg_nI, lit_nI, nI_add, pk_mul, pk_sub, nI_clamp, inB_nI, gd_true, bnd_def, nI_leI, nI_ltI, nI_eq, nI_mI, mI_nI, nle_T, nle_F, nlt_T, nlt_F, neq_T, neq_F, ↓reduceIte, Nat.add_zero, Nat.zero_add, Nat.mul_zero, Nat.reduceAdd, Nat.reduceMul, Nat.reduceSub, ob1_e, ob2_e, ob3_e, ob4_e, ob6_e]
    · by_cases e : i = 54 + k
      · rw [e, r5 _ (by omega) (by omega) (by omega), upd_y rfl]
      · exact r2 i (by omega)
    · rw [r4, upd_n (by omega)]
    · rw [r5 i (by omega) h3 h4, upd_n (by omega)]
theorem live_in {G : Nat} {mg : Nat → Int32} (hG : G ≤ 6) : ∀ (j k n : Nat) (c : Nat → Int32), k + j = G → j < n → ∃ c', f_X12_live_28 (nI G) mg n c (nI k) = some c' ∧ (∀ i, 54 + k ≤ i ∧ i < 54 + G → c' i = mI 1) ∧ c' 65 = nI 0 ∧ c' 68 = c 68 + nI 1 ∧ (∀ i, (i < 54 + k ∨ 54 + G ≤ i) → i ≠ 65 → i ≠ 68 → c' i = c i) := by
  intro j
  induction j with
  | zero =>
    intro k n c hk h1
    obtain ⟨n, rfl⟩ : ∃ q, n = q + 1 := ⟨n - 1, by omega⟩
    refine ⟨upd (upd c 65 (nI 0)) 68 (upd c 65 (nI 0) 68 + nI 1), ?_, fun i hi => by omega, ?_, ?_, fun i h2 h3 h4 => ?_⟩
    · simp (disch := omega) only [f_X12_live_28, b_X12_live_28, neg_nI, lit_nI, nI_add, pk_mul, pk_sub, nI_clamp, inB_nI, gd_true, bnd_def, nI_leI, nI_ltI, nI_eq, nI_mI, mI_nI, nle_T, nle_F, nlt_T, nlt_F, neq_T, neq_F, ↓reduceIte, Nat.add_zero, Nat.zero_add, Nat.mul_zero, Nat.reduceAdd, Nat.reduceMul, Nat.reduceSub, ob1_e, ob2_e, ob3_e, ob4_e, ob6_e]
    · rw [upd_n (by omega), upd_y rfl]
    · rw [upd_y rfl, upd_n (by omega)]
    · rw [upd_n h4, upd_n h3]
  | succ j ih =>
    intro k n c hk h1
    obtain ⟨n, rfl⟩ : ∃ q, n = q + 1 := ⟨n - 1, by omega⟩
    obtain ⟨c', r1, r2, r3, r4, r5⟩ := ih (k + 1) n (upd c (54 + k) (mI 1)) (by omega) (by omega)
    refine ⟨c', ?_, fun i hi => ?_, r3, ?_, fun i h2 h3 h4 => ?_⟩
    · rw [← r1]
      simp (disch := omega) only [f_X12_live_28, b_X12_live_28, neg_nI, lit_nI, nI_add, pk_mul, pk_sub, nI_clamp, inB_nI, gd_true, bnd_def, nI_leI, nI_ltI, nI_eq, nI_mI, mI_nI, nle_T, nle_F, nlt_T, nlt_F, neq_T, neq_F, ↓reduceIte, Nat.add_zero, Nat.zero_add, Nat.mul_zero, Nat.reduceAdd, Nat.reduceMul, Nat.reduceSub, ob1_e, ob2_e, ob3_e, ob4_e, ob6_e]
    · by_cases e : i = 54 + k
      · rw [e, r5 _ (by omega) (by omega) (by omega), upd_y rfl]
      · exact r2 i (by omega)
    · rw [r4, upd_n (by omega)]
    · rw [r5 i (by omega) h3 h4, upd_n (by omega)]
