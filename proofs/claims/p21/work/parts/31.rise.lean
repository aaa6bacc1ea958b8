/-! how warmth rises, as a word R of six numbers; the law's own text stays closed -/
abbrev R6 : Type := Int32 → Int32 → Int32 → Int32 → Int32 → Int32 → Int32
def RiseX (R : R6) (lh : Int32) (ll l0 l1 l2 l3 : Nat → Int32) : Prop := ∀ (lt st : Nat → Int32) (a b c d e f : Int32), ∃ lt' st', f_X2_riseBy lh ll l0 l1 l2 l3 lt st a b c d e f = some (R a b c d e f, lt', st')
def RiseY (R : R6) (mh : Int32) (mc mv mk mt ms mu : Nat → Int32) : Prop := ∀ (lt st : Nat → Int32) (a b c d e f : Int32), (d = nI 0 ∨ d = nI 1) → ∃ lt' st', f_X12_riseBy mh mc mv mk mt ms mu lt st a b c d e f = some (R a b c d e f, lt', st')
def RiseB (R : R6) : Prop := ∀ a b c d e f : Int32, -9 ≤ (R a b c d e f).toInt ∧ (R a b c d e f).toInt ≤ 9
def rv (R : R6) (ta c : Nat → Int32) (g o : Nat) (w d : Int32) : Int32 := R (c (36 + g) + c (36 + o)) (c (42 + g) + c (42 + o)) w (if ta g = ta o then nI 1 else nI 0) (c 66) d
def tA (mg : Nat → Int32) : Nat → Int32 := fun g => mg (4 * g + 3)
section RS
variable {R : R6} {lh : Int32} {ll l0 l1 l2 l3 : Nat → Int32} {mh : Int32} {mc mv mk mt ms mu : Nat → Int32}
theorem riseAt_c (hR : RiseX R lh ll l0 l1 l2 l3) {ta c lt st : Nat → Int32} {g o : Nat} {w d : Int32} (h : g < 6 ∧ o < 6) : ∃ lt' st', f_X9_riseAt ta lh ll l0 l1 l2 l3 c lt st (nI g) (nI o) w d = some (rv R ta c g o w d, lt', st') := by
  obtain ⟨lt', st', e⟩ := hR lt st (c (36 + g) + c (36 + o)) (c (42 + g) + c (42 + o)) w (if ta g = ta o then nI 1 else nI 0) (c 66) d
  refine ⟨lt', st', ?_⟩
  simp (disch := omega) only [f_X9_riseAt, b_X9_riseAt_0, free_c, stuffed_c, sameAim_c, pride_c, e, rv, ob1_e, ob2_e, ob3_e, ob4_e, ob6_e]
theorem riseOf_c (hR : RiseX R lh ll l0 l1 l2 l3) {ta c lt st : Nat → Int32} {g o : Nat} (h : g < 6 ∧ o < 6) : ∃ lt' st', f_X9_riseOf ta lh ll l0 l1 l2 l3 c lt st (nI g) (nI o) = some (rv R ta c g o (c (pl g o)) (c 68), lt', st') := by
  obtain ⟨lt', st', e⟩ := riseAt_c hR (ta := ta) (c := c) (lt := lt) (st := st) (w := c (pl g o)) (d := c 68) h
  refine ⟨lt', st', ?_⟩
  simp (disch := omega) only [f_X9_riseOf, b_X9_riseOf_0, warmthOf_c, day_c, e, ob1_e, ob2_e, ob3_e, ob4_e, ob6_e]
theorem warmer_c (hR : RiseX R lh ll l0 l1 l2 l3) {ta c lt st : Nat → Int32} {g o : Nat} {w k : Int32} (h : g < 6 ∧ o < 6) : ∃ lt' st', f_X9_warmer ta lh ll l0 l1 l2 l3 c lt st (nI g) (nI o) w k = some (hd (w + rv R ta c g o w (mn 999 (c 68 + k))), lt', st') := by
  obtain ⟨lt', st', e⟩ := riseAt_c hR (ta := ta) (c := c) (lt := lt) (st := st) (w := w) (d := mn 999 (c 68 + k)) h
  refine ⟨lt', st', ?_⟩
  simp only [f_X9_warmer, b_X9_warmer_0, day_c, e, hd, bnd_def, ob1_e, ob2_e, ob3_e, ob4_e, ob6_e]
theorem riseFrom_c (hR : RiseY R mh mc mv mk mt ms mu) {mg m lt st : Nat → Int32} {g o : Nat} {w d : Int32} (h : g < 6 ∧ o < 6) : ∃ lt' st', f_X12_riseFrom mh mc mv mk mt ms mu mg m lt st (nI g) (nI o) w d = some (rv R (tA mg) m g o w d, lt', st') := by
  obtain ⟨lt', st', e⟩ := hR lt st (m (36 + g) + m (36 + o)) (m (42 + g) + m (42 + o)) w (if mg (4 * g + 3) = mg (4 * o + 3) then nI 1 else nI 0) (m 66) d (by split; exact Or.inr rfl; exact Or.inl rfl)
  refine ⟨lt', st', ?_⟩
  simp (disch := omega) only [f_X12_riseFrom, b_X12_riseFrom_0, areAllies_c, e, neg_nI, lit_nI, nI_add, pk_mul, pk_sub, nI_clamp, inB_nI, gd_true, bnd_def, nI_leI, nI_ltI, nI_eq, nI_mI, mI_nI, nle_T, nle_F, nlt_T, nlt_F, neq_T, neq_F, ↓reduceIte, Nat.add_zero, Nat.zero_add, Nat.mul_zero, Nat.reduceAdd, Nat.reduceMul, Nat.reduceSub, ob1_e, ob2_e, ob3_e, ob4_e, ob6_e]
  rfl
theorem riseOfY_c (hR : RiseY R mh mc mv mk mt ms mu) {mg m lt st : Nat → Int32} {g o : Nat} (h : g < 6 ∧ o < 6) : ∃ lt' st', f_X12_riseOf mh mc mv mk mt ms mu mg m lt st (nI g) (nI o) = some (rv R (tA mg) m g o (m (pl g o)) (m 68), lt', st') := by
  obtain ⟨lt', st', e⟩ := riseFrom_c hR (mg := mg) (m := m) (lt := lt) (st := st) (w := m (pl g o)) (d := m 68) h
  refine ⟨lt', st', ?_⟩
  simp (disch := omega) only [f_X12_riseOf, b_X12_riseOf_0, pairAt_c, inB_pl, pl_clamp, e, neg_nI, lit_nI, nI_add, pk_mul, pk_sub, nI_clamp, inB_nI, gd_true, bnd_def, nI_leI, nI_ltI, nI_eq, nI_mI, mI_nI, nle_T, nle_F, nlt_T, nlt_F, neq_T, neq_F, ↓reduceIte, Nat.add_zero, Nat.zero_add, Nat.mul_zero, Nat.reduceAdd, Nat.reduceMul, Nat.reduceSub, ob1_e, ob2_e, ob3_e, ob4_e, ob6_e]
end RS
theorem hd_r (x : Int32) : ∃ w, w ≤ 99 ∧ hd x = nI w := by
  unfold hd
  by_cases h : x < 99
  · rw [show mn 99 x = x from if_pos h]
    by_cases h0 : (0 : Int32) < x
    · rw [show mx 0 x = x from if_pos h0]
      obtain ⟨j, hj, e⟩ | h1 | ⟨h1, h2, h3⟩ := rng x 99 (by decide)
      · exact ⟨j, hj, e⟩
      · exact absurd h1 (by rw [lt32] at h0 ⊢; have : (nI 0).toInt = (0 : Int32).toInt := rfl; omega)
      · exact absurd h2 (by rw [lt32] at h ⊢; have : (nI 99).toInt = (99 : Int32).toInt := rfl; omega)
    · rw [show mx 0 x = 0 from if_neg h0]
      exact ⟨0, by omega, rfl⟩
  · rw [show mn 99 x = 99 from if_neg h]
    exact ⟨99, by omega, rfl⟩
/-- the cells in use, of the class's row and of the model's, are the same -/
def RN (G M : Nat) (c m : Nat → Int32) : Prop := ∀ i, (i < 36 ∨ (36 ≤ i ∧ i < 36 + G) ∨ (42 ≤ i ∧ i < 42 + G) ∨ (48 ≤ i ∧ i < 48 + G) ∨ (54 ≤ i ∧ i < 54 + G) ∨ (60 ≤ i ∧ i < 60 + M) ∨ (65 ≤ i ∧ i < 69)) → m i = c i
theorem RN.put {G M : Nat} {c m : Nat → Int32} (h : RN G M c m) (k : Nat) (v : Int32) : RN G M (upd c k v) (upd m k v) := by
  intro i hi
  by_cases e : i = k
  · rw [upd_y e, upd_y e]
  · rw [upd_n e, upd_n e]
    exact h i hi
/-- what holds of the class's cells -/
def IV (G : Nat) (th c : Nat → Int32) : Prop := (∀ i, i < 36 → ∃ w, w ≤ 99 ∧ c i = nI w ∧ (w = 0 ∨ ∃ a b, a < b ∧ b < G ∧ ¬ th a = th b ∧ i = pl a b)) ∧ (∀ g, g < G → ∃ f, f ≤ 9 ∧ c (36 + g) = nI f) ∧ (∃ d, d ≤ 999 ∧ c 68 = nI d)
theorem rv_cong {R : R6} {ta mg c m : Nat → Int32} {G M g o : Nat} {w d : Int32} (hN : RN G M c m) (ha : ∀ g, g < G → mg (4 * g + 3) = ta g) (h : g < G ∧ o < G ∧ G ≤ 6) : rv R (tA mg) m g o w d = rv R ta c g o w d := by
  unfold rv tA
  rw [hN (36 + g) (by omega), hN (36 + o) (by omega), hN (42 + g) (by omega), hN (42 + o) (by omega), hN 66 (by omega), ha g h.1, ha o h.2.1]
/-! two meet -/
theorem cdx : ∀ a, a < 6 → ∀ b, b < 6 → nI 10 * mn (nI a) (nI b) + mx (nI a) (nI b) = nI (cd a b) := by decide +kernel
theorem cdx_c {a b : Nat} (h : a < 6 ∧ b < 6) : nI 10 * mn (nI a) (nI b) + mx (nI a) (nI b) = nI (cd a b) := cdx a h.1 b h.2
theorem sign_l {G M g o : Nat} {tn mm : Nat → Int32} (hM : M ≤ 5) (hg : g < 6) (ho : o < 6) (hn : ∀ k, k < M → mm (2 * k + 1) = tn k) : ∀ (j k n n' : Nat) (c m : Nat → Int32), k + j = M → j < n → j < n' → RN G M c m → ∃ c' m', f_X9_signLowest_2 (nI M) tn n c (nI g) (nI o) (nI k) = some c' ∧ f_X12_signNow_2 (nI M) mm n' m (nI g) (nI o) (nI k) = some m' ∧ RN G M c' m' ∧ (∀ i, i < 60 ∨ 65 < i → c' i = c i) ∧ (∀ i, i < 60 ∨ 65 < i → m' i = m i) := by
  intro j
  induction j with
  | zero =>
    intro k n n' c m hk h1 h2 hN
    obtain ⟨n, rfl⟩ : ∃ q, n = q + 1 := ⟨n - 1, by omega⟩
    obtain ⟨n', rfl⟩ : ∃ q, n' = q + 1 := ⟨n' - 1, by omega⟩
    refine ⟨c, m, ?_, ?_, hN, fun _ _ => rfl, fun _ _ => rfl⟩
    · simp (disch := omega) only [f_X9_signLowest_2, b_X9_signLowest_2, neg_nI, lit_nI, nI_add, pk_mul, pk_sub, nI_clamp, inB_nI, gd_true, bnd_def, nI_leI, nI_ltI, nI_eq, nI_mI, mI_nI, nle_T, nle_F, nlt_T, nlt_F, neq_T, neq_F, ↓reduceIte, Nat.add_zero, Nat.zero_add, Nat.mul_zero, Nat.reduceAdd, Nat.reduceMul, Nat.reduceSub, ob1_e, ob2_e, ob3_e, ob4_e, ob6_e]
    · simp (disch := omega) only [f_X12_signNow_2, b_X12_signNow_2, neg_nI, lit_nI, nI_add, pk_mul, pk_sub, nI_clamp, inB_nI, gd_true, bnd_def, nI_leI, nI_ltI, nI_eq, nI_mI, mI_nI, nle_T, nle_F, nlt_T, nlt_F, neq_T, neq_F, ↓reduceIte, Nat.add_zero, Nat.zero_add, Nat.mul_zero, Nat.reduceAdd, Nat.reduceMul, Nat.reduceSub, ob1_e, ob2_e, ob3_e, ob4_e, ob6_e]
  | succ j ih =>
    intro k n n' c m hk h1 h2 hN
    obtain ⟨n, rfl⟩ : ∃ q, n = q + 1 := ⟨n - 1, by omega⟩
    obtain ⟨n', rfl⟩ : ∃ q, n' = q + 1 := ⟨n' - 1, by omega⟩
    have hp := pl_lt ⟨hg, ho⟩
    have e1 : m (60 + k) = c (60 + k) := hN _ (by omega)
    have e2 : m (pl g o) = c (pl g o) := hN _ (by omega)
    by_cases hs : c (60 + k) = mI 1
    · by_cases hw : c (pl g o) < tn k
      · obtain ⟨c', m', r1, r2, r3⟩ := ih (k + 1) n n' c m (by omega) (by omega) (by omega) hN
        refine ⟨c', m', ?_, ?_, r3⟩
        · rw [← r1]
          simp (disch := omega) only [f_X9_signLowest_2, b_X9_signLowest_2, b_X9_signLowest_77, signers_c, warmthOf_c, hs, hw, neg_nI, lit_nI, nI_add, pk_mul, pk_sub, nI_clamp, inB_nI, gd_true, bnd_def, nI_leI, nI_ltI, nI_eq, nI_mI, mI_nI, nle_T, nle_F, nlt_T, nlt_F, neq_T, neq_F, ↓reduceIte, Nat.add_zero, Nat.zero_add, Nat.mul_zero, Nat.reduceAdd, Nat.reduceMul, Nat.reduceSub, ob1_e, ob2_e, ob3_e, ob4_e, ob6_e]
        · rw [← r2]
          simp (disch := omega) only [f_X12_signNow_2, b_X12_signNow_2, b_X12_signNow_74, pairAt_c, inB_pl, pl_clamp, e1, e2, hn, hs, hw, neg_nI, lit_nI, nI_add, pk_mul, pk_sub, nI_clamp, inB_nI, gd_true, bnd_def, nI_leI, nI_ltI, nI_eq, nI_mI, mI_nI, nle_T, nle_F, nlt_T, nlt_F, neq_T, neq_F, ↓reduceIte, Nat.add_zero, Nat.zero_add, Nat.mul_zero, Nat.reduceAdd, Nat.reduceMul, Nat.reduceSub, ob1_e, ob2_e, ob3_e, ob4_e, ob6_e]
      · refine ⟨upd (upd c (60 + k) (nI (cd g o))) 65 (upd c (60 + k) (nI (cd g o)) 65 ||| ((1 : Int32) <<< (nI k &&& 31))), upd (upd m (60 + k) (nI (cd g o))) 65 (upd c (60 + k) (nI (cd g o)) 65 ||| ((1 : Int32) <<< (nI k &&& 31))), ?_, ?_, (hN.put _ _).put _ _, ?_, ?_⟩
        · simp (disch := omega) only [f_X9_signLowest_2, b_X9_signLowest_2, b_X9_signLowest_77, signers_c, warmthOf_c, hs, hw, cdx_c, neg_nI, lit_nI, nI_add, pk_mul, pk_sub, nI_clamp, inB_nI, gd_true, bnd_def, nI_leI, nI_ltI, nI_eq, nI_mI, mI_nI, nle_T, nle_F, nlt_T, nlt_F, neq_T, neq_F, ↓reduceIte, Nat.add_zero, Nat.zero_add, Nat.mul_zero, Nat.reduceAdd, Nat.reduceMul, Nat.reduceSub, ob1_e, ob2_e, ob3_e, ob4_e, ob6_e]
        · have e3 : upd m (60 + k) (nI (cd g o)) 65 = upd c (60 + k) (nI (cd g o)) 65 := (hN.put _ _) 65 (by omega)
          simp (disch := omega) only [f_X12_signNow_2, b_X12_signNow_2, b_X12_signNow_74, pairAt_c, codeOf_c, inB_pl, pl_clamp, e1, e2, e3, hn, hs, hw, neg_nI, lit_nI, nI_add, pk_mul, pk_sub, nI_clamp, inB_nI, gd_true, bnd_def, nI_leI, nI_ltI, nI_eq, nI_mI, mI_nI, nle_T, nle_F, nlt_T, nlt_F, neq_T, neq_F, ↓reduceIte, Nat.add_zero, Nat.zero_add, Nat.mul_zero, Nat.reduceAdd, Nat.reduceMul, Nat.reduceSub, ob1_e, ob2_e, ob3_e, ob4_e, ob6_e]
        · intro i hi
          rw [upd_n (by omega), upd_n (by omega)]
        · intro i hi
          rw [upd_n (by omega), upd_n (by omega)]
    · obtain ⟨c', m', r1, r2, r3⟩ := ih (k + 1) n n' c m (by omega) (by omega) (by omega) hN
      refine ⟨c', m', ?_, ?_, r3⟩
      · rw [← r1]
        simp (disch := omega) only [f_X9_signLowest_2, b_X9_signLowest_2, b_X9_signLowest_77, signers_c, warmthOf_c, hs, neg_nI, lit_nI, nI_add, pk_mul, pk_sub, nI_clamp, inB_nI, gd_true, bnd_def, nI_leI, nI_ltI, nI_eq, nI_mI, mI_nI, nle_T, nle_F, nlt_T, nlt_F, neq_T, neq_F, ↓reduceIte, Nat.add_zero, Nat.zero_add, Nat.mul_zero, Nat.reduceAdd, Nat.reduceMul, Nat.reduceSub, ob1_e, ob2_e, ob3_e, ob4_e, ob6_e]
      · rw [← r2]
        simp (disch := omega) only [f_X12_signNow_2, b_X12_signNow_2, b_X12_signNow_74, pairAt_c, inB_pl, pl_clamp, e1, e2, hs, neg_nI, lit_nI, nI_add, pk_mul, pk_sub, nI_clamp, inB_nI, gd_true, bnd_def, nI_leI, nI_ltI, nI_eq, nI_mI, mI_nI, nle_T, nle_F, nlt_T, nlt_F, neq_T, neq_F, ↓reduceIte, Nat.add_zero, Nat.zero_add, Nat.mul_zero, Nat.reduceAdd, Nat.reduceMul, Nat.reduceSub, ob1_e, ob2_e, ob3_e, ob4_e, ob6_e]
