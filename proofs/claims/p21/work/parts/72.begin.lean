/-! a peace is taken by both: the first state -/
section BG
variable {pd cn : Int32} {fe st : Nat → Int32}
def bgG (fe st : Nat → Int32) (k : Nat) (c : Nat → Int32) : Prop := ∀ g, g < k → c (36 + g) = fe g ∧ c (42 + g) = st g ∧ c (48 + g) = nI 1 <<< (nI g &&& nI 31) ∧ c (54 + g) = mI 1
theorem bg2 : ∀ (j k : Nat) (c : Nat → Int32) (n : Nat), k + j = 36 → j < n → (∀ i, i < k → c i = nI 0) → ∃ c', (∀ i, i < 36 → c' i = nI 0) ∧ f_X9_begin_2 pd cn fe st n c (nI k) = f_X9_begin_23 pd cn fe st fu c' (nI 0)
  | 0, k, c, n + 1, hk, hn, h => by
    refine ⟨c, fun i hi => h i (by omega), ?_⟩
    simp (disch := omega) only [f_X9_begin_2, b_X9_begin_2, neg_nI, lit_nI, nI_add, pk_mul, pk_sub, nI_clamp, inB_nI, gd_true, bnd_def, nI_leI, nI_ltI, nI_eq, nI_mI, mI_nI, nle_T, nle_F, nlt_T, nlt_F, neq_T, neq_F, ↓reduceIte, Nat.add_zero, Nat.zero_add, Nat.mul_zero, Nat.reduceAdd, Nat.reduceMul, Nat.reduceSub]
  | j + 1, k, c, n + 1, hk, hn, h => by
    obtain ⟨c', h1, h2⟩ := bg2 j (k + 1) (upd c k (nI 0)) n (by omega) (by omega) (fun i hi => by
      by_cases e : i = k
      · rw [upd_y e]
      · rw [upd_n e]; exact h i (by omega))
    refine ⟨c', h1, ?_⟩
    rw [← h2, show ∀ a b, f_X9_begin_2 pd cn fe st (n + 1) a b = b_X9_begin_2 pd cn fe st (f_X9_begin_2 pd cn fe st n) a b from fun _ _ => rfl]
    simp (disch := omega) only [b_X9_begin_2, neg_nI, lit_nI, nI_add, pk_mul, pk_sub, nI_clamp, inB_nI, gd_true, bnd_def, nI_leI, nI_ltI, nI_eq, nI_mI, mI_nI, nle_T, nle_F, nlt_T, nlt_F, neq_T, neq_F, ↓reduceIte, Nat.add_zero, Nat.zero_add, Nat.mul_zero, Nat.reduceAdd, Nat.reduceMul, Nat.reduceSub]
theorem bg23 : ∀ (j k : Nat) (c : Nat → Int32) (n : Nat), k + j = 6 → j < n → (∀ i, i < 36 → c i = nI 0) → bgG fe st k c → ∃ c', (∀ i, i < 36 → c' i = nI 0) ∧ bgG fe st 6 c' ∧ f_X9_begin_23 pd cn fe st n c (nI k) = f_X9_begin_95 pd cn fe st fu c' (nI 0)
  | 0, k, c, n + 1, hk, hn, h, hg => by
    obtain rfl : k = 6 := by omega
    refine ⟨c, h, hg, ?_⟩
    simp (disch := omega) only [f_X9_begin_23, b_X9_begin_23, neg_nI, lit_nI, nI_add, pk_mul, pk_sub, nI_clamp, inB_nI, gd_true, bnd_def, nI_leI, nI_ltI, nI_eq, nI_mI, mI_nI, nle_T, nle_F, nlt_T, nlt_F, neq_T, neq_F, ↓reduceIte, Nat.add_zero, Nat.zero_add, Nat.mul_zero, Nat.reduceAdd, Nat.reduceMul, Nat.reduceSub]
  | j + 1, k, c, n + 1, hk, hn, h, hg => by
    obtain ⟨c', h1, h3, h2⟩ := bg23 j (k + 1) (upd (upd (upd (upd c (36 + k) (fe k)) (42 + k) (st k)) (48 + k) (nI 1 <<< (nI k &&& nI 31))) (54 + k) (mI 1)) n (by omega) (by omega) (fun i hi => by rw [upd_n (by omega), upd_n (by omega), upd_n (by omega), upd_n (by omega)]; exact h i hi) (fun g hgk => by
      by_cases e : g = k
      · subst e
        refine ⟨?_, ?_, ?_, ?_⟩
        · rw [upd_n (by omega), upd_n (by omega), upd_n (by omega), upd_y rfl]
        · rw [upd_n (by omega), upd_n (by omega), upd_y rfl]
        · rw [upd_n (by omega), upd_y rfl]
        · rw [upd_y rfl]
      · obtain ⟨q1, q2, q3, q4⟩ := hg g (by omega)
        refine ⟨?_, ?_, ?_, ?_⟩
        · rw [upd_n (by omega), upd_n (by omega), upd_n (by omega), upd_n (by omega), q1]
        · rw [upd_n (by omega), upd_n (by omega), upd_n (by omega), upd_n (by omega), q2]
        · rw [upd_n (by omega), upd_n (by omega), upd_n (by omega), upd_n (by omega), q3]
        · rw [upd_n (by omega), upd_n (by omega), upd_n (by omega), upd_n (by omega), q4])
    refine ⟨c', h1, h3, ?_⟩
    rw [← h2, show ∀ a b, f_X9_begin_23 pd cn fe st (n + 1) a b = b_X9_begin_23 pd cn fe st (f_X9_begin_23 pd cn fe st n) a b from fun _ _ => rfl]
    simp (disch := omega) only [b_X9_begin_23, neg_nI, lit_nI, nI_add, pk_mul, pk_sub, nI_clamp, inB_nI, gd_true, bnd_def, nI_leI, nI_ltI, nI_eq, nI_mI, mI_nI, nle_T, nle_F, nlt_T, nlt_F, neq_T, neq_F, ↓reduceIte, Nat.add_zero, Nat.zero_add, Nat.mul_zero, Nat.reduceAdd, Nat.reduceMul, Nat.reduceSub]
theorem bg95 : ∀ (j k : Nat) (c : Nat → Int32) (n : Nat), k + j = 5 → j < n → (∀ i, i < 36 → c i = nI 0) → bgG fe st 6 c → (∀ m, m < k → c (60 + m) = mI 1) → ∃ c', f_X9_begin_95 pd cn fe st n c (nI k) = some c' ∧ (∀ i, i < 36 → c' i = nI 0) ∧ bgG fe st 6 c' ∧ (∀ m, m < 5 → c' (60 + m) = mI 1) ∧ c' 65 = nI 0 ∧ c' 66 = pd ∧ c' 67 = cn ∧ c' 68 = nI 0
  | 0, k, c, n + 1, hk, hn, h, hg, hm => by
    obtain rfl : k = 5 := by omega
    refine ⟨upd (upd (upd (upd c 65 (nI 0)) 66 pd) 67 cn) 68 (nI 0), ?_, ?_, ?_, ?_, rfl, rfl, rfl, rfl⟩
    · simp (disch := omega) only [f_X9_begin_95, b_X9_begin_95, neg_nI, lit_nI, nI_add, pk_mul, pk_sub, nI_clamp, inB_nI, gd_true, bnd_def, nI_leI, nI_ltI, nI_eq, nI_mI, mI_nI, nle_T, nle_F, nlt_T, nlt_F, neq_T, neq_F, ↓reduceIte, Nat.add_zero, Nat.zero_add, Nat.mul_zero, Nat.reduceAdd, Nat.reduceMul, Nat.reduceSub]
    · intro i hi
      rw [upd_n (by omega), upd_n (by omega), upd_n (by omega), upd_n (by omega)]; exact h i hi
    · intro g hg6
      obtain ⟨q1, q2, q3, q4⟩ := hg g hg6
      refine ⟨?_, ?_, ?_, ?_⟩
      · rw [upd_n (by omega), upd_n (by omega), upd_n (by omega), upd_n (by omega), q1]
      · rw [upd_n (by omega), upd_n (by omega), upd_n (by omega), upd_n (by omega), q2]
      · rw [upd_n (by omega), upd_n (by omega), upd_n (by omega), upd_n (by omega), q3]
      · rw [upd_n (by omega), upd_n (by omega), upd_n (by omega), upd_n (by omega), q4]
    · intro m hm5
      rw [upd_n (by omega), upd_n (by omega), upd_n (by omega), upd_n (by omega)]; exact hm m hm5
  | j + 1, k, c, n + 1, hk, hn, h, hg, hm => by
    obtain ⟨c', h1, h2⟩ := bg95 j (k + 1) (upd c (60 + k) (mI 1)) n (by omega) (by omega) (fun i hi => by rw [upd_n (by omega)]; exact h i hi) (fun g hg6 => by
      obtain ⟨q1, q2, q3, q4⟩ := hg g hg6
      rw [upd_n (by omega), upd_n (by omega), upd_n (by omega), upd_n (by omega)]
      exact ⟨q1, q2, q3, q4⟩) (fun m hmk => by
      by_cases e : m = k
      · subst e; rw [upd_y rfl]
      · rw [upd_n (by omega)]; exact hm m (by omega))
    refine ⟨c', ?_, h2⟩
    rw [← h1, show ∀ a b, f_X9_begin_95 pd cn fe st (n + 1) a b = b_X9_begin_95 pd cn fe st (f_X9_begin_95 pd cn fe st n) a b from fun _ _ => rfl]
    simp (disch := omega) only [b_X9_begin_95, neg_nI, lit_nI, nI_add, pk_mul, pk_sub, nI_clamp, inB_nI, gd_true, bnd_def, nI_leI, nI_ltI, nI_eq, nI_mI, mI_nI, nle_T, nle_F, nlt_T, nlt_F, neq_T, neq_F, ↓reduceIte, Nat.add_zero, Nat.zero_add, Nat.mul_zero, Nat.reduceAdd, Nat.reduceMul, Nat.reduceSub]
theorem bg_c (c : Nat → Int32) : ∃ c', f_X9_begin pd cn fe st c = some c' ∧ (∀ i, i < 36 → c' i = nI 0) ∧ bgG fe st 6 c' ∧ (∀ m, m < 5 → c' (60 + m) = mI 1) ∧ c' 65 = nI 0 ∧ c' 66 = pd ∧ c' 67 = cn ∧ c' 68 = nI 0 := by
  have hf := fu_le
  obtain ⟨c1, h1, e1⟩ := bg2 (pd := pd) (cn := cn) (fe := fe) (st := st) 36 0 c fu (by omega) (by omega) (fun i hi => by omega)
  obtain ⟨c2, h2, g2, e2⟩ := bg23 (pd := pd) (cn := cn) (fe := fe) (st := st) 6 0 c1 fu (by omega) (by omega) h1 (fun g hg => by omega)
  obtain ⟨c3, e3, r⟩ := bg95 (pd := pd) (cn := cn) (fe := fe) (st := st) 5 0 c2 fu (by omega) (by omega) h2 g2 (fun g hg => by omega)
  refine ⟨c3, ?_, r⟩
  show f_X9_begin_2 pd cn fe st fu c (nI 0) = _
  rw [e1, e2, e3]
end BG
