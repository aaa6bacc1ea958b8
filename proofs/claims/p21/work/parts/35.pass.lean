/-! bits and counts of gloves, matters -/
def bbF (p : Nat → Bool) : Nat → Nat → Int32 → Int32
  | 0, _, v => v
  | j + 1, k, v => bbF p j (k + 1) (if p k = true then v ||| ((1 : Int32) <<< (nI k &&& nI 31)) else v)
def cnF (p : Nat → Bool) : Nat → Nat → Int32 → Int32
  | 0, _, v => v
  | j + 1, k, v => cnF p j (k + 1) (if p k = true then v + nI 1 else v)
def pMet (c : Nat → Int32) (g : Nat) : Bool := decide (¬ c (54 + g) = mI 1)
theorem metBits_l {G : Nat} {c : Nat → Int32} (hG : G ≤ 6) : ∀ (j k n : Nat) (v : Int32), k + j = G → j < n → f_X9_metBits_4 (nI G) c n v (nI k) = some (bbF (pMet c) j k v) := by
  intro j
  induction j with
  | zero =>
    intro k n v hk h1
    obtain ⟨n, rfl⟩ : ∃ q, n = q + 1 := ⟨n - 1, by omega⟩
    simp (disch := omega) only [f_X9_metBits_4, b_X9_metBits_4, bbF, neg_nI, lit_nI, nI_add, pk_mul, pk_sub, nI_clamp, inB_nI, gd_true, bnd_def, nI_leI, nI_ltI, nI_eq, nI_mI, mI_nI, nle_T, nle_F, nlt_T, nlt_F, neq_T, neq_F, ↓reduceIte, Nat.add_zero, Nat.zero_add, Nat.mul_zero, Nat.reduceAdd, Nat.reduceMul, Nat.reduceSub, ob1_e, ob2_e, ob3_e, ob4_e, ob6_e]
  | succ j ih =>
    intro k n v hk h1
    obtain ⟨n, rfl⟩ : ∃ q, n = q + 1 := ⟨n - 1, by omega⟩
    by_cases hs : c (54 + k) = mI 1
    · have hp : pMet c k = false := by unfold pMet; rw [decide_eq_false (fun q => q hs)]
      simp (disch := omega) only [f_X9_metBits_4, b_X9_metBits_4, b_X9_metBits_29, hasMet_c, hs, bbF, hp, ih (k + 1) n _ (by omega) (by omega), Bool.false_eq_true, neg_nI, lit_nI, nI_add, pk_mul, pk_sub, nI_clamp, inB_nI, gd_true, bnd_def, nI_leI, nI_ltI, nI_eq, nI_mI, mI_nI, nle_T, nle_F, nlt_T, nlt_F, neq_T, neq_F, ↓reduceIte, Nat.add_zero, Nat.zero_add, Nat.mul_zero, Nat.reduceAdd, Nat.reduceMul, Nat.reduceSub, ob1_e, ob2_e, ob3_e, ob4_e, ob6_e]
    · have hp : pMet c k = true := by unfold pMet; rw [decide_eq_true hs]
      simp (disch := omega) only [f_X9_metBits_4, b_X9_metBits_4, b_X9_metBits_29, hasMet_c, hs, bbF, hp, ih (k + 1) n _ (by omega) (by omega), neg_nI, lit_nI, nI_add, pk_mul, pk_sub, nI_clamp, inB_nI, gd_true, bnd_def, nI_leI, nI_ltI, nI_eq, nI_mI, mI_nI, nle_T, nle_F, nlt_T, nlt_F, neq_T, neq_F, ↓reduceIte, Nat.add_zero, Nat.zero_add, Nat.mul_zero, Nat.reduceAdd, Nat.reduceMul, Nat.reduceSub, ob1_e, ob2_e, ob3_e, ob4_e, ob6_e]
theorem metMany_l {G : Nat} {c : Nat → Int32} (hG : G ≤ 6) : ∀ (j k n : Nat) (v : Int32), k + j = G → j < n → f_X12_metMany_4 (nI G) c n v (nI k) = some (cnF (pMet c) j k v) := by
  intro j
  induction j with
  | zero =>
    intro k n v hk h1
    obtain ⟨n, rfl⟩ : ∃ q, n = q + 1 := ⟨n - 1, by omega⟩
    simp (disch := omega) only [f_X12_metMany_4, b_X12_metMany_4, cnF, neg_nI, lit_nI, nI_add, pk_mul, pk_sub, nI_clamp, inB_nI, gd_true, bnd_def, nI_leI, nI_ltI, nI_eq, nI_mI, mI_nI, nle_T, nle_F, nlt_T, nlt_F, neq_T, neq_F, ↓reduceIte, Nat.add_zero, Nat.zero_add, Nat.mul_zero, Nat.reduceAdd, Nat.reduceMul, Nat.reduceSub, ob1_e, ob2_e, ob3_e, ob4_e, ob6_e]
  | succ j ih =>
    intro k n v hk h1
    obtain ⟨n, rfl⟩ : ∃ q, n = q + 1 := ⟨n - 1, by omega⟩
    have v0 : v + nI 0 = v := Int32.add_zero v
    by_cases hs : c (54 + k) = mI 1
    · have hp : pMet c k = false := by unfold pMet; rw [decide_eq_false (fun q => q hs)]
      simp (disch := omega) only [f_X12_metMany_4, b_X12_metMany_4, b_X12_metMany_26, isFree_c, hs, cnF, hp, v0, ih (k + 1) n _ (by omega) (by omega), Bool.false_eq_true, neg_nI, lit_nI, nI_add, pk_mul, pk_sub, nI_clamp, inB_nI, gd_true, bnd_def, nI_leI, nI_ltI, nI_eq, nI_mI, mI_nI, nle_T, nle_F, nlt_T, nlt_F, neq_T, neq_F, ↓reduceIte, Nat.add_zero, Nat.zero_add, Nat.mul_zero, Nat.reduceAdd, Nat.reduceMul, Nat.reduceSub, ob1_e, ob2_e, ob3_e, ob4_e, ob6_e]
    · have hp : pMet c k = true := by unfold pMet; rw [decide_eq_true hs]
      simp (disch := omega) only [f_X12_metMany_4, b_X12_metMany_4, b_X12_metMany_26, isFree_c, hs, cnF, hp, ih (k + 1) n _ (by omega) (by omega), neg_nI, lit_nI, nI_add, pk_mul, pk_sub, nI_clamp, inB_nI, gd_true, bnd_def, nI_leI, nI_ltI, nI_eq, nI_mI, mI_nI, nle_T, nle_F, nlt_T, nlt_F, neq_T, neq_F, ↓reduceIte, Nat.add_zero, Nat.zero_add, Nat.mul_zero, Nat.reduceAdd, Nat.reduceMul, Nat.reduceSub, ob1_e, ob2_e, ob3_e, ob4_e, ob6_e]
def p6 (b0 b1 b2 b3 b4 b5 : Bool) : Nat → Bool
  | 0 => b0
  | 1 => b1
  | 2 => b2
  | 3 => b3
  | 4 => b4
  | _ => b5
theorem bbF_cong {p q : Nat → Bool} : ∀ (j k : Nat) (v : Int32), (∀ i, k ≤ i → i < k + j → p i = q i) → bbF p j k v = bbF q j k v
  | 0, _, _, _ => rfl
  | j + 1, k, v, h => by
    unfold bbF
    rw [h k (by omega) (by omega)]
    exact bbF_cong j (k + 1) _ (fun i h1 h2 => h i (by omega) (by omega))
theorem cnF_cong {p q : Nat → Bool} : ∀ (j k : Nat) (v : Int32), (∀ i, k ≤ i → i < k + j → p i = q i) → cnF p j k v = cnF q j k v
  | 0, _, _, _ => rfl
  | j + 1, k, v, h => by
    unfold cnF
    rw [h k (by omega) (by omega)]
    exact cnF_cong j (k + 1) _ (fun i h1 h2 => h i (by omega) (by omega))
set_option maxRecDepth 100000 in
theorem bit6 : ∀ b0 b1 b2 b3 b4 b5 : Bool, ∀ G, G < 7 → f_J6_bitCount_0f7a4 (bbF (p6 b0 b1 b2 b3 b4 b5) G 0 (nI 0)) = some (cnF (p6 b0 b1 b2 b3 b4 b5) G 0 (nI 0)) := by decide +kernel
theorem p6_e (p : Nat → Bool) : ∀ i, i < 6 → p i = p6 (p 0) (p 1) (p 2) (p 3) (p 4) (p 5) i := by
  intro i hi
  rcases (show i = 0 ∨ i = 1 ∨ i = 2 ∨ i = 3 ∨ i = 4 ∨ i = 5 by omega) with rfl | rfl | rfl | rfl | rfl | rfl <;> rfl
theorem bitCount_c {p : Nat → Bool} {G : Nat} (h : G ≤ 6) : f_J6_bitCount_0f7a4 (bbF p G 0 (nI 0)) = some (cnF p G 0 (nI 0)) := by
  rw [bbF_cong (q := p6 (p 0) (p 1) (p 2) (p 3) (p 4) (p 5)) G 0 _ (fun i _ hi => p6_e p i (by omega)), cnF_cong (q := p6 (p 0) (p 1) (p 2) (p 3) (p 4) (p 5)) G 0 _ (fun i _ hi => p6_e p i (by omega))]
  exact bit6 _ _ _ _ _ _ G (by omega)
theorem metBits_c {G : Nat} {c : Nat → Int32} (hG : G ≤ 6) : f_X9_metBits (nI G) c = some (bbF (pMet c) G 0 (nI 0)) := metBits_l hG G 0 fu (nI 0) (by omega) (by have := fu_le; omega)
theorem metMany_c {G : Nat} {c : Nat → Int32} (hG : G ≤ 6) : f_X12_metMany (nI G) c = some (cnF (pMet c) G 0 (nI 0)) := metMany_l hG G 0 fu (nI 0) (by omega) (by have := fu_le; omega)
/-! warmth of all -/
def smF (c : Nat → Int32) : Nat → Nat → Int32 → Int32
  | 0, _, v => v
  | j + 1, k, v => smF c j (k + 1) (v + c k)
theorem smF_cong {c m : Nat → Int32} : ∀ (j k : Nat) (v : Int32), (∀ i, k ≤ i → i < k + j → m i = c i) → smF m j k v = smF c j k v
  | 0, _, _, _ => rfl
  | j + 1, k, v, h => by
    unfold smF
    rw [h k (by omega) (by omega)]
    exact smF_cong j (k + 1) _ (fun i h1 h2 => h i (by omega) (by omega))
theorem wallX_l {c : Nat → Int32} : ∀ (j k n : Nat) (v : Int32), k + j = 36 → j < n → f_X9_warmthOfAll_4 c n v (nI k) = some (smF c j k v) := by
  intro j
  induction j with
  | zero =>
    intro k n v hk h1
    obtain ⟨n, rfl⟩ : ∃ q, n = q + 1 := ⟨n - 1, by omega⟩
    simp (disch := omega) only [f_X9_warmthOfAll_4, b_X9_warmthOfAll_4, smF, neg_nI, lit_nI, nI_add, pk_mul, pk_sub, nI_clamp, inB_nI, gd_true, bnd_def, nI_leI, nI_ltI, nI_eq, nI_mI, mI_nI, nle_T, nle_F, nlt_T, nlt_F, neq_T, neq_F, ↓reduceIte, Nat.add_zero, Nat.zero_add, Nat.mul_zero, Nat.reduceAdd, Nat.reduceMul, Nat.reduceSub, ob1_e, ob2_e, ob3_e, ob4_e, ob6_e]
  | succ j ih =>
    intro k n v hk h1
    obtain ⟨n, rfl⟩ : ∃ q, n = q + 1 := ⟨n - 1, by omega⟩
    simp (disch := omega) only [f_X9_warmthOfAll_4, b_X9_warmthOfAll_4, smF, ih (k + 1) n _ (by omega) (by omega), neg_nI, lit_nI, nI_add, pk_mul, pk_sub, nI_clamp, inB_nI, gd_true, bnd_def, nI_leI, nI_ltI, nI_eq, nI_mI, mI_nI, nle_T, nle_F, nlt_T, nlt_F, neq_T, neq_F, ↓reduceIte, Nat.add_zero, Nat.zero_add, Nat.mul_zero, Nat.reduceAdd, Nat.reduceMul, Nat.reduceSub, ob1_e, ob2_e, ob3_e, ob4_e, ob6_e]
theorem wallY_l {c : Nat → Int32} : ∀ (j k n : Nat) (v : Int32), k + j = 36 → j < n → f_X12_warmthOfAll_4 c n v (nI k) = some (smF c j k v) := by
  intro j
  induction j with
  | zero =>
    intro k n v hk h1
    obtain ⟨n, rfl⟩ : ∃ q, n = q + 1 := ⟨n - 1, by omega⟩
    simp (disch := omega) only [f_X12_warmthOfAll_4, b_X12_warmthOfAll_4, smF, neg_nI, lit_nI, nI_add, pk_mul, pk_sub, nI_clamp, inB_nI, gd_true, bnd_def, nI_leI, nI_ltI, nI_eq, nI_mI, mI_nI, nle_T, nle_F, nlt_T, nlt_F, neq_T, neq_F, ↓reduceIte, Nat.add_zero, Nat.zero_add, Nat.mul_zero, Nat.reduceAdd, Nat.reduceMul, Nat.reduceSub, ob1_e, ob2_e, ob3_e, ob4_e, ob6_e]
  | succ j ih =>
    intro k n v hk h1
    obtain ⟨n, rfl⟩ : ∃ q, n = q + 1 := ⟨n - 1, by omega⟩
    simp (disch := omega) only [f_X12_warmthOfAll_4, b_X12_warmthOfAll_4, smF, ih (k + 1) n _ (by omega) (by omega), neg_nI, lit_nI, nI_add, pk_mul, pk_sub, nI_clamp, inB_nI, gd_true, bnd_def, nI_leI, nI_ltI, nI_eq, nI_mI, mI_nI, nle_T, nle_F, nlt_T, nlt_F, neq_T, neq_F, ↓reduceIte, Nat.add_zero, Nat.zero_add, Nat.mul_zero, Nat.reduceAdd, Nat.reduceMul, Nat.reduceSub, ob1_e, ob2_e, ob3_e, ob4_e, ob6_e]
def wall (c : Nat → Int32) : Int32 := smF c 36 0 (nI 0)
theorem wallX_c {c : Nat → Int32} : f_X9_warmthOfAll c = some (wall c) := wallX_l 36 0 fu (nI 0) (by omega) (by have := fu_le; omega)
theorem wallY_c {c : Nat → Int32} : f_X12_warmthOfAll c = some (wall c) := wallY_l 36 0 fu (nI 0) (by omega) (by have := fu_le; omega)
theorem wall_cong {c m : Nat → Int32} (h : ∀ i, i < 36 → m i = c i) : wall m = wall c := smF_cong 36 0 _ (fun i _ hi => h i (by omega))
/-! the book -/
theorem and127 {d : Nat} (h : d < 2 ^ 31) : nI d &&& nI 127 = nI (d % 128) := pk_andN (by omega) 7 (by decide)
def bk3 (bk : Nat → Int32) (d : Nat) (a b w : Int32) : Nat → Int32 := upd (upd (upd bk (d % 128 * 3) a) (d % 128 * 3 + 1) b) (d % 128 * 3 + 2) w
theorem write_c {bk : Nat → Int32} {d : Nat} {a b w : Int32} (h : d ≤ 999) : f_X3_write bk (nI d) a b w = some (bk3 bk d a b w) := by
  simp (disch := omega) only [f_X3_write, b_X3_write_0, and127, bk3, neg_nI, lit_nI, nI_add, pk_mul, pk_sub, nI_clamp, inB_nI, gd_true, bnd_def, nI_leI, nI_ltI, nI_eq, nI_mI, mI_nI, nle_T, nle_F, nlt_T, nlt_F, neq_T, neq_F, ↓reduceIte, Nat.add_zero, Nat.zero_add, Nat.mul_zero, Nat.reduceAdd, Nat.reduceMul, Nat.reduceSub, ob1_e, ob2_e, ob3_e, ob4_e, ob6_e]
theorem bk3_n {bk : Nat → Int32} {d x : Nat} {a b w : Int32} {q : Nat} (hq : q < 3) (h : x % 128 ≠ d % 128) : bk3 bk d a b w (x % 128 * 3 + q) = bk (x % 128 * 3 + q) := by
  unfold bk3
  rw [upd_n (by omega), upd_n (by omega), upd_n (by omega)]
/-! the model's log is shifted -/
theorem shift_l {G : Nat} {mg : Nat → Int32} {a b : Int32} : ∀ (j k n : Nat) (m : Nat → Int32), k + j = 180 → 3 ≤ k → j < n → ∃ m', f_X12_passDay_31 (nI G) mg n m a b (nI k) = b_X12_passDay_75 (nI G) mg (upd m' 69 (m' 69 - nI 1)) a b ∧ (∀ i, k ≤ i → i < 180 → m' (70 + i - 3) = m (70 + i)) ∧ (∀ i, i + 3 < 70 + k ∨ 250 ≤ i → m' i = m i) := by
  intro j
  induction j with
  | zero =>
    intro k n m hk h3 h1
    obtain ⟨n, rfl⟩ : ∃ q, n = q + 1 := ⟨n - 1, by omega⟩
    refine ⟨m, ?_, fun i h2 h3 => by omega, fun _ _ => rfl⟩
    simp (disch := omega) only [f_X12_passDay_31, b_X12_passDay_31, neg_nI, lit_nI, nI_add, pk_mul, pk_sub, nI_clamp, inB_nI, gd_true, bnd_def, nI_leI, nI_ltI, nI_eq, nI_mI, mI_nI, nle_T, nle_F, nlt_T, nlt_F, neq_T, neq_F, ↓reduceIte, Nat.add_zero, Nat.zero_add, Nat.mul_zero, Nat.reduceAdd, Nat.reduceMul, Nat.reduceSub, ob1_e, ob2_e, ob3_e, ob4_e, ob6_e]
  | succ j ih =>
    intro k n m hk h3 h1
    obtain ⟨n, rfl⟩ : ∃ q, n = q + 1 := ⟨n - 1, by omega⟩
    obtain ⟨m', r1, r2, r3⟩ := ih (k + 1) n (upd m (70 + k - 3) (m (70 + k))) (by omega) (by omega) (by omega)
    refine ⟨m', ?_, fun i h2 h4 => ?_, fun i hi => ?_⟩
    · rw [← r1]
      simp (disch := omega) only [f_X12_passDay_31, b_X12_passDay_31, neg_nI, lit_nI, nI_add, pk_mul, pk_sub, nI_clamp, inB_nI, gd_true, bnd_def, nI_leI, nI_ltI, nI_eq, nI_mI, mI_nI, nle_T, nle_F, nlt_T, nlt_F, neq_T, neq_F, ↓reduceIte, Nat.add_zero, Nat.zero_add, Nat.mul_zero, Nat.reduceAdd, Nat.reduceMul, Nat.reduceSub, ob1_e, ob2_e, ob3_e, ob4_e, ob6_e]
    · by_cases e : i = k
      · rw [e, r3 _ (by omega), upd_y rfl]
      · rw [r2 i (by omega) h4, upd_n (by omega)]
    · rw [r3 i (by omega), upd_n (by omega)]
theorem note_c {G L : Nat} {mg m : Nat → Int32} {a b : Int32} (hL : L < 60) (hm : m 69 = nI L) : ∃ m', b_X12_passDay_75 (nI G) mg m a b = some m' ∧ m' 69 = nI (L + 1) ∧ m' (70 + 3 * L) = a ∧ m' (70 + 3 * L + 1) = b ∧ m' (70 + 3 * L + 2) = wall m ∧ (∀ i, i < 69 ∨ (70 ≤ i ∧ i < 70 + 3 * L) → m' i = m i) := by
  have e1 : wall (upd (upd m (70 + 3 * L) a) (70 + 3 * L + 1) b) = wall m := wall_cong (fun i hi => by rw [upd_n (by omega), upd_n (by omega)])
  refine ⟨upd (upd (upd (upd m (70 + 3 * L) a) (70 + 3 * L + 1) b) (70 + 3 * L + 2) (wall m)) 69 (nI (L + 1)), ?_, upd_y rfl, ?_, ?_, ?_, fun i hi => ?_⟩
  · simp (disch := omega) only [b_X12_passDay_75, hm, wallY_c, e1, upd_n, neg_nI, lit_nI, nI_add, pk_mul, pk_sub, nI_clamp, inB_nI, gd_true, bnd_def, nI_leI, nI_ltI, nI_eq, nI_mI, mI_nI, nle_T, nle_F, nlt_T, nlt_F, neq_T, neq_F, ↓reduceIte, Nat.add_zero, Nat.zero_add, Nat.mul_zero, Nat.reduceAdd, Nat.reduceMul, Nat.reduceSub, ob1_e, ob2_e, ob3_e, ob4_e, ob6_e]
  · rw [upd_n (by omega), upd_n (by omega), upd_n (by omega), upd_y rfl]
  · rw [upd_n (by omega), upd_n (by omega), upd_y rfl]
  · rw [upd_n (by omega), upd_y rfl]
  · rw [upd_n (by omega), upd_n (by omega), upd_n (by omega), upd_n (by omega)]
theorem live_c {G M : Nat} {th mg : Nat → Int32} (hG : G ≤ 6) (hM : M ≤ 5) (hh : ∀ g, g < G → mg (4 * g) = th g) {c m : Nat → Int32} (hN : RN G M c m) (hI : IV G th c) : ∃ c2 c3 m3, f_X9_cool (nI G) c = some c2 ∧ f_X9_dawn c2 = some c3 ∧ f_X12_live (nI G) mg m = some m3 ∧ RN G M c3 m3 ∧ (∀ i, i < 36 → ∃ w, w ≤ 99 ∧ c3 i = nI w ∧ (w = 0 ∨ ∃ a b, a < b ∧ b < G ∧ ¬ th a = th b ∧ i = pl a b)) ∧ (∀ i, i < 36 → c3 i = c2 i) ∧ (∀ i, 36 ≤ i → i ≠ 67 → c2 i = c i) ∧ (∀ i, 36 ≤ i ∧ i < 48 → c3 i = c i) ∧ c3 68 = c 68 + nI 1 ∧ (∀ i, 69 ≤ i → m3 i = m i) := by
  obtain ⟨c1, m1, r1, r2, r3, r4, r5, r6⟩ := cool_out (G := G) (M := M) (th := th) (mg := mg) hG hh G 0 fu fu c m (by omega) (by have := fu_le; omega) (by have := fu_le; omega) hN hI
  have e67 : m1 67 = c1 67 := r3 67 (by omega)
  obtain ⟨c3, d1, d2, d3, d4, d5⟩ := dawn_in 6 0 fu (upd c1 67 (mn (nI 999) (c1 67 + nI 2))) (by omega) (by have := fu_le; omega)
  obtain ⟨m3, l1, l2, l3, l4, l5⟩ := live_in (G := G) (mg := mg) hG G 0 fu (upd m1 67 (mn (nI 999) (c1 67 + nI 2))) (by omega) (by have := fu_le; omega)
  have hN2 := r3.put 67 (mn (nI 999) (c1 67 + nI 2))
  refine ⟨upd c1 67 (mn (nI 999) (c1 67 + nI 2)), c3, m3, r1, d1, ?_, ?_, ?_, ?_, ?_, ?_, ?_, ?_⟩
  · have q : f_X12_cool (nI G) mg m = some m1 := r2
    simp (disch := omega) only [f_X12_live, b_X12_live_0, q, e67, neg_nI, lit_nI, nI_add, pk_mul, pk_sub, nI_clamp, inB_nI, gd_true, bnd_def, nI_leI, nI_ltI, nI_eq, nI_mI, mI_nI, nle_T, nle_F, nlt_T, nlt_F, neq_T, neq_F, ↓reduceIte, Nat.add_zero, Nat.zero_add, Nat.mul_zero, Nat.reduceAdd, Nat.reduceMul, Nat.reduceSub, ob1_e, ob2_e, ob3_e, ob4_e, ob6_e]
    exact l1
  · intro i hi
    by_cases h54 : 54 ≤ i ∧ i < 54 + G
    · rw [d2 i (by omega), l2 i (by omega)]
    · by_cases h65 : i = 65
      · rw [h65, d3, l3]
      · by_cases h68 : i = 68
        · rw [h68, d4, l4, hN2 68 (by omega)]
        · rw [d5 i (by omega) h65 h68, l5 i (by omega) h65 h68]
          exact hN2 i hi
  · intro i hi
    rw [d5 i (by omega) (by omega) (by omega), upd_n (by omega)]
    exact r4.1 i hi
  · intro i hi
    exact d5 i (by omega) (by omega) (by omega)
  · intro i h1 h2
    rw [upd_n h2]
    exact r5 i h1
  · intro i hi
    rw [d5 i (by omega) (by omega) (by omega), upd_n (by omega)]
    exact r5 i (by omega)
  · rw [d4, upd_n (by omega), r5 68 (by omega)]
  · intro i hi
    rw [l5 i (by omega) (by omega) (by omega), upd_n (by omega)]
    exact r6 i (by omega)
theorem pass_l {G M d : Nat} {th mg bk : Nat → Int32} (hG : G ≤ 6) (hM : M ≤ 5) (hh : ∀ g, g < G → mg (4 * g) = th g) {c m : Nat → Int32} (hC : RC G M th bk d c m) (hd9 : d < 999) : ∃ c' bk' m', f_X11_passDay (nI G) c bk = some (c', bk') ∧ f_X12_passDay (nI G) mg m = some m' ∧ RC G M th bk' (d + 1) c' m' ∧ (∀ x q, q < 3 → x % 128 ≠ d % 128 → bk' (x % 128 * 3 + q) = bk (x % 128 * 3 + q)) := by
  obtain ⟨hN, hI, ⟨hday, -⟩, hL, hR⟩ := hC
  obtain ⟨c2, c3, m3, r1, r2, r3, r4, r5, r6, r7, r8, r9, r10⟩ := live_c hG hM hh hN hI
  have eday : c2 68 = nI d := by rw [r7 68 (by omega) (by omega)]; exact hday
  have e65 : c2 65 = c 65 := r7 65 (by omega) (by omega)
  have m65 : m 65 = c 65 := hN 65 (by omega)
  have emet : cnF (pMet m) G 0 (nI 0) = cnF (pMet c2) G 0 (nI 0) := by
    refine cnF_cong G 0 _ (fun i _ hi => ?_)
    unfold pMet
    rw [hN (54 + i) (by omega), r7 (54 + i) (by omega) (by omega)]
  have ew : wall m3 = wall c2 := wall_cong (fun i hi => by rw [r4 i (by omega)]; exact r6 i hi)
  have e68 : c3 68 = nI (d + 1) := by rw [r9, hday, nI_add]
  have hI3 : IV G th c3 := ⟨r5, fun g hg => by rw [r8 (36 + g) (by omega)]; exact hI.2.1 g hg, d + 1, by omega, e68⟩
  have fin : ∃ m', f_X12_passDay (nI G) mg m = some m' ∧ (∀ i, i < 69 → m' i = m3 i) ∧ RLog (bk3 bk d (cnF (pMet c2) G 0 (nI 0)) (c 65) (wall c2)) (d + 1) m' := by
    by_cases h60 : 60 ≤ d
    · have e69 : m3 69 = nI 60 := by rw [r10 69 (by omega), hL, Nat.min_eq_left h60]
      obtain ⟨m4, s1, s2, s3⟩ := shift_l (G := G) (mg := mg) (a := cnF (pMet m) G 0 (nI 0)) (b := m 65) 177 3 fu m3 (by omega) (by omega) (by have := fu_le; omega)
      have e4 : m4 69 = nI 60 := by rw [s3 69 (by omega)]; exact e69
      obtain ⟨m5, n1, n2, n3, n4, n5, n6⟩ := note_c (G := G) (L := 59) (mg := mg) (m := upd m4 69 (m4 69 - nI 1)) (a := cnF (pMet m) G 0 (nI 0)) (b := m 65) (by omega) (by rw [upd_y rfl, e4, pk_sub (by omega)])
      refine ⟨m5, ?_, fun i hi => ?_, ?_, ?_⟩
      · rw [← n1, ← s1]
        simp (disch := omega) only [f_X12_passDay, b_X12_passDay_0, metMany_c hG, r3, e69, neg_nI, lit_nI, nI_add, pk_mul, pk_sub, nI_clamp, inB_nI, gd_true, bnd_def, nI_leI, nI_ltI, nI_eq, nI_mI, mI_nI, nle_T, nle_F, nlt_T, nlt_F, neq_T, neq_F, ↓reduceIte, Nat.add_zero, Nat.zero_add, Nat.mul_zero, Nat.reduceAdd, Nat.reduceMul, Nat.reduceSub, ob1_e, ob2_e, ob3_e, ob4_e, ob6_e]
      · rw [n6 i (by omega), upd_n (by omega), s3 i (by omega)]
      · rw [n2, Nat.min_eq_left (by omega)]
      · intro r hr w hw
        rw [Nat.min_eq_left (by omega)] at hr ⊢
        by_cases er : r = 59
        · subst er
          rw [show (d + 1 - 60 + 59) = d by omega]
          unfold bk3
          rcases (show w = 0 ∨ w = 1 ∨ w = 2 by omega) with rfl | rfl | rfl
          · rw [upd_n (by omega), upd_n (by omega), upd_y (by omega), ← emet, ← n3]
          · rw [upd_n (by omega), upd_y (by omega), ← m65, ← n4]
          · rw [upd_y (by omega)]
            rw [show 70 + (3 * 59 + 2) = 70 + 3 * 59 + 2 by omega, n5, ← ew]
            exact wall_cong (fun i hi => by rw [upd_n (by omega), s3 i (by omega)])
        · rw [bk3_n hw (by omega), n6 _ (by omega), upd_n (by omega)]
          have q1 := s2 (3 * (r + 1) + w) (by omega) (by omega)
          rw [show 70 + (3 * (r + 1) + w) - 3 = 70 + (3 * r + w) by omega] at q1
          rw [q1, r10 _ (by omega), hR (r + 1) (by omega) w hw]
          rw [Nat.min_eq_left h60, show d - 60 + (r + 1) = d + 1 - 60 + r by omega]
    · have e69 : m3 69 = nI d := by rw [r10 69 (by omega), hL, Nat.min_eq_right (by omega)]
      obtain ⟨m5, n1, n2, n3, n4, n5, n6⟩ := note_c (G := G) (L := d) (mg := mg) (m := m3) (a := cnF (pMet m) G 0 (nI 0)) (b := m 65) (by omega) e69
      refine ⟨m5, ?_, fun i hi => n6 i (by omega), ?_, ?_⟩
      · rw [← n1]
        simp (disch := omega) only [f_X12_passDay, b_X12_passDay_0, metMany_c hG, r3, e69, neg_nI, lit_nI, nI_add, pk_mul, pk_sub, nI_clamp, inB_nI, gd_true, bnd_def, nI_leI, nI_ltI, nI_eq, nI_mI, mI_nI, nle_T, nle_F, nlt_T, nlt_F, neq_T, neq_F, ↓reduceIte, Nat.add_zero, Nat.zero_add, Nat.mul_zero, Nat.reduceAdd, Nat.reduceMul, Nat.reduceSub, ob1_e, ob2_e, ob3_e, ob4_e, ob6_e]
      · rw [n2, Nat.min_eq_right (by omega)]
      · intro r hr w hw
        rw [Nat.min_eq_right (by omega)] at hr ⊢
        rw [show d + 1 - (d + 1) + r = r by omega]
        by_cases er : r = d
        · subst er
          unfold bk3
          rcases (show w = 0 ∨ w = 1 ∨ w = 2 by omega) with rfl | rfl | rfl
          · rw [upd_n (by omega), upd_n (by omega), upd_y (by omega), ← emet, ← n3]
            exact congrArg m5 (by omega)
          · rw [upd_n (by omega), upd_y (by omega), ← m65, ← n4]
            exact congrArg m5 (by omega)
          · rw [upd_y (by omega), show 70 + (3 * r + 2) = 70 + 3 * r + 2 by omega, n5, ← ew]
        · rw [bk3_n hw (by omega), n6 _ (by omega), r10 _ (by omega), hR r (by omega) w hw]
          rw [Nat.min_eq_right (by omega), show d - d + r = r by omega]
  obtain ⟨m', f1, f2, f3⟩ := fin
  refine ⟨c3, bk3 bk d (cnF (pMet c2) G 0 (nI 0)) (c 65) (wall c2), m', ?_, f1, ⟨fun i hi => ?_, hI3, ⟨e68, by omega⟩, f3⟩, fun x q hq hx => bk3_n hq hx⟩
  · have q65 : f_X9_signedToday c2 = some (c 65) := by rw [← e65]; rfl
    simp (disch := omega) only [f_X11_passDay, b_X11_passDay_0, r1, r2, day_c, eday, metBits_c hG, bitCount_c, q65, wallX_c, write_c, neg_nI, lit_nI, nI_add, pk_mul, pk_sub, nI_clamp, inB_nI, gd_true, bnd_def, nI_leI, nI_ltI, nI_eq, nI_mI, mI_nI, nle_T, nle_F, nlt_T, nlt_F, neq_T, neq_F, ↓reduceIte, Nat.add_zero, Nat.zero_add, Nat.mul_zero, Nat.reduceAdd, Nat.reduceMul, Nat.reduceSub, ob1_e, ob2_e, ob3_e, ob4_e, ob6_e]
  · rw [f2 i (by omega)]
    exact r4 i hi
/-- a day goes by: the acts kept stay as they are -/
theorem RA.pass {G M s nx d : Nat} {th bk bk' rows kept : Nat → Int32} {dd : Nat → Nat} (hA : RA G M th bk s nx rows kept dd) (hd : dd s = d) (hb : ∀ x q, q < 3 → x % 128 ≠ d % 128 → bk' (x % 128 * 3 + q) = bk (x % 128 * 3 + q)) : RA G M th bk' s nx rows kept dd := by
  obtain ⟨hs, hn, hr⟩ := hA
  have hdd : ∀ q j, j + q = s → dd j ≤ d ∧ d ≤ dd j + q := by
    intro q
    induction q with
    | zero =>
      intro j hj
      have : j = s := by omega
      rw [this, hd]
      omega
    | succ q ih =>
      intro j hj
      have h1 := ih (j + 1) (by omega)
      have h2 := (hr j (by omega)).2
      omega
  refine ⟨hs, hn, fun j hj => ?_⟩
  obtain ⟨⟨h1, h2, h3, h4, h5⟩, h6⟩ := hr j hj
  have h7 := hdd (s - j) j (by omega)
  refine ⟨⟨h1, h2, h3, h4, fun r hr2 w hw => ?_⟩, h6⟩
  rw [h5 r hr2 w hw]
  exact (hb _ w hw (by omega)).symm
/-- behind a kept act the day may go on -/
theorem RA.next {G M s nx d d' : Nat} {th bk rows kept : Nat → Int32} {dd : Nat → Nat} (hA : RA G M th bk s nx rows kept dd) (h1 : dd (s - 1) = d) (h0 : 0 < s) (h2 : d ≤ d') (h3 : d' ≤ d + 1) : RA G M th bk s nx rows kept (fun j => if j = s then d' else dd j) := by
  obtain ⟨hs, hn, hr⟩ := hA
  refine ⟨hs, hn, fun j hj => ?_⟩
  obtain ⟨q1, q2⟩ := hr j hj
  show RC G M th bk (if j = s then d' else dd j) _ _ ∧ (if j = s then d' else dd j) ≤ (if j + 1 = s then d' else dd (j + 1)) ∧ (if j + 1 = s then d' else dd (j + 1)) ≤ (if j = s then d' else dd j) + 1
  rw [if_neg (by omega)]
  refine ⟨q1, ?_⟩
  by_cases e : j + 1 = s
  · rw [if_pos e]
    have : j = s - 1 := by omega
    rw [this, h1]
    omega
  · rw [if_neg e]
    exact q2
