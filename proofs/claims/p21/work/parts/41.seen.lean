/-! bits of an Int32 (these rows began as rows of the kit's BITS.to-paste) -/
def bt (x : Int32) (i : Nat) : Bool := x.toBitVec.getLsbD i
theorem b_ext {x y : Int32} (h : ∀ i, i < 32 → bt x i = bt y i) : x = y := Int32.toBitVec_inj.mp (BitVec.eq_of_getLsbD_eq (fun i hi => h i hi))
theorem b_or (x y : Int32) (i : Nat) : bt (x ||| y) i = (bt x i || bt y i) := by unfold bt; rw [Int32.toBitVec_or, BitVec.getLsbD_or]
theorem b_and (x y : Int32) (i : Nat) : bt (x &&& y) i = (bt x i && bt y i) := by unfold bt; rw [Int32.toBitVec_and, BitVec.getLsbD_and]
theorem s_l : ∀ n, n < 32 → ((nI n &&& 31).toBitVec.smod 32).toNat = n := by decide +kernel
theorem b_shl (n : Nat) (hn : n < 32) (x : Int32) {i : Nat} (hi : i < 32) : bt (x <<< (nI n &&& 31)) i = (decide (n ≤ i) && bt x (i - n)) := by
  unfold bt
  rw [Int32.toBitVec_shiftLeft]
  show (x.toBitVec <<< ((nI n &&& 31).toBitVec.smod 32).toNat).getLsbD i = _
  rw [s_l n hn, BitVec.getLsbD_shiftLeft]
  rcases Nat.lt_or_ge i n with h | h
  · simp [h, Nat.not_le.mpr h]
  · simp [hi, h, Nat.not_lt.mpr h]
theorem b_sshr (n : Nat) (hn : n < 32) (x : Int32) {i : Nat} (hi : i < 32) : bt (x >>> (nI n &&& 31)) i = if n + i < 32 then bt x (n + i) else bt x 31 := by
  unfold bt
  rw [Int32.toBitVec_shiftRight]
  show (x.toBitVec.sshiftRight ((nI n &&& 31).toBitVec.smod 32).toNat).getLsbD i = _
  rw [s_l n hn, BitVec.getLsbD_sshiftRight, BitVec.msb_eq_getLsbD_last]
  simp [hi]
theorem b_1 : ∀ i, i < 32 → bt (nI 1) i = decide (i = 0) := by decide +kernel
theorem b_z : ∀ i, i < 32 → bt (nI 0) i = false := by decide +kernel
theorem and1 (y : Int32) : y &&& nI 1 = if bt y 0 = true then nI 1 else nI 0 := by
  apply b_ext
  intro i hi
  rw [b_and, b_1 i hi]
  by_cases h : bt y 0 = true
  · rw [if_pos h, b_1 i hi]
    by_cases e : i = 0
    · rw [e, h]; rfl
    · rw [decide_eq_false e, Bool.and_false]
  · rw [if_neg h, b_z i hi]
    by_cases e : i = 0
    · rw [e]
      cases hb : bt y 0
      · rfl
      · exact absurd hb h
    · rw [decide_eq_false e, Bool.and_false]
theorem bit1 {i : Nat} (hi : i < 31) (x : Int32) : (x >>> (nI i &&& nI 31)) &&& nI 1 = if bt x i = true then nI 1 else nI 0 := by
  have h : bt (x >>> (nI i &&& nI 31)) 0 = bt x i := by
    have := b_sshr i (by omega) x (i := 0) (by omega)
    rw [if_pos (by omega)] at this
    exact this
  rw [and1, h]
theorem b_sh1 {k i : Nat} (hk : k < 31) (hi : i < 32) : bt ((1 : Int32) <<< (nI k &&& nI 31)) i = decide (i = k) := by
  have h := b_shl k (by omega) (1 : Int32) (i := i) hi
  rw [show nI k &&& nI 31 = nI k &&& 31 from rfl, h]
  rcases Nat.lt_or_ge i k with q | q
  · rw [decide_eq_false (by omega), decide_eq_false (by omega)]; rfl
  · rw [decide_eq_true q, Bool.true_and]
    have := b_1 (i - k) (by omega)
    rw [show bt (1 : Int32) (i - k) = bt (nI 1) (i - k) from rfl, this]
    by_cases e : i = k
    · rw [decide_eq_true (by omega), decide_eq_true e]
    · rw [decide_eq_false (by omega), decide_eq_false e]
theorem b_bbF {p : Nat → Bool} {i : Nat} (hi : i < 32) : ∀ (j k : Nat) (v : Int32), k + j ≤ 31 → bt (bbF p j k v) i = (bt v i || (decide (k ≤ i ∧ i < k + j) && p i))
  | 0, k, v, _ => by
    unfold bbF
    rw [decide_eq_false (by omega), Bool.false_and, Bool.or_false]
  | j + 1, k, v, h => by
    unfold bbF
    rw [b_bbF hi j (k + 1) _ (by omega)]
    by_cases hp : p k = true
    · rw [if_pos hp, b_or, b_sh1 (by omega) hi]
      by_cases e : i = k
      · rw [decide_eq_true e, decide_eq_false (by omega), decide_eq_true (show k ≤ i ∧ i < k + (j + 1) by omega), e, hp]
        simp
      · rw [decide_eq_false e, Bool.or_false]
        congr 2
        exact decide_eq_decide.mpr (by omega)
    · rw [if_neg hp]
      by_cases e : i = k
      · rw [decide_eq_false (by omega), e]
        simp [hp]
      · congr 2
        exact decide_eq_decide.mpr (by omega)
/-! what was seen -/
def tr (R : R6) (tp : Int32) (tf ts ta : Nat → Int32) (g o : Nat) (f : Int32) : Int32 := R (f + tf o) (ts g + ts o) (nI 0) (if ta g = ta o then nI 1 else nI 0) tp (nI 0)
def oth (s1 s2 : Nat → Int32) (g i : Nat) : Nat := (if s1 i = nI g then s2 i else s1 i).toNatClampNeg
def okS (R : R6) (tp : Int32) (tf ts ta s1 s2 s3 s4 : Nat → Int32) (g : Nat) (f : Int32) (i : Nat) : Bool := decide (¬ (s1 i = nI g ∨ s2 i = nI g) ∨ (if tr R tp tf ts ta g (oth s1 s2 g i) f < s3 i then nI 0 else nI 1) = s4 i)
def allF (p : Nat → Bool) : Nat → Nat → Bool
  | 0, _ => true
  | j + 1, k => p k && allF p j (k + 1)
def bz (b : Bool) : Int32 := if b = true then nI 1 else nI 0
def RS (G q : Nat) (s1 s2 s3 s4 n1 n2 n3 n4 : Nat → Int32) : Prop := q ≤ 10 ∧ ∀ i, i < q → n1 i = s1 i ∧ n2 i = s2 i ∧ n3 i = s3 i ∧ n4 i = s4 i ∧ (∃ a, a < G ∧ s1 i = nI a) ∧ (∃ b, b < G ∧ s2 i = nI b)
section SE
variable {R : R6} {lh : Int32} {ll l0 l1 l2 l3 : Nat → Int32} {mh : Int32} {mc mv mk mt ms mu : Nat → Int32}
variable {G q : Nat} {tp : Int32} {th tf ts ta mg mr s1 s2 s3 s4 n1 n2 n3 n4 : Nat → Int32}
theorem reaches_c (hX : RiseX R lh ll l0 l1 l2 l3) {lt st : Nat → Int32} {g o : Nat} {f v : Int32} (h : g < 6 ∧ o < 6) : ∃ lt' st', f_X8_reaches tp tf ts ta lh ll l0 l1 l2 l3 lt st (nI g) f (nI o) v = some (if tr R tp tf ts ta g o f < v then nI 0 else nI 1, lt', st') := by
  obtain ⟨lt', st', e⟩ := hX lt st (f + tf o) (ts g + ts o) (nI 0) (if ta g = ta o then nI 1 else nI 0) tp (nI 0)
  refine ⟨lt', st', ?_⟩
  have e2 : tr R tp tf ts ta g o f = R (f + tf o) (ts g + ts o) (nI 0) (if ta g = ta o then nI 1 else nI 0) tp (nI 0) := rfl
  by_cases hv : tr R tp tf ts ta g o f < v
  · rw [if_pos hv]
    rw [e2] at hv
    simp (disch := omega) only [f_X8_reaches, b_X8_reaches_0, sameAim_c, e, hv, neg_nI, lit_nI, nI_add, pk_mul, pk_sub, nI_clamp, inB_nI, gd_true, bnd_def, nI_leI, nI_ltI, nI_eq, nI_mI, mI_nI, nle_T, nle_F, nlt_T, nlt_F, neq_T, neq_F, ↓reduceIte, Nat.add_zero, Nat.zero_add, Nat.mul_zero, Nat.reduceAdd, Nat.reduceMul, Nat.reduceSub, ob1_e, ob2_e, ob3_e, ob4_e, ob6_e]
  · rw [if_neg hv]
    rw [e2] at hv
    simp (disch := omega) only [f_X8_reaches, b_X8_reaches_0, sameAim_c, e, hv, neg_nI, lit_nI, nI_add, pk_mul, pk_sub, nI_clamp, inB_nI, gd_true, bnd_def, nI_leI, nI_ltI, nI_eq, nI_mI, mI_nI, nle_T, nle_F, nlt_T, nlt_F, neq_T, neq_F, ↓reduceIte, Nat.add_zero, Nat.zero_add, Nat.mul_zero, Nat.reduceAdd, Nat.reduceMul, Nat.reduceSub, ob1_e, ob2_e, ob3_e, ob4_e, ob6_e]
theorem toldRise_c (hY : RiseY R mh mc mv mk mt ms mu) (hG : G ≤ 6) (hf : ∀ g, g < G → mg (4 * g + 1) = tf g) (hs : ∀ g, g < G → mg (4 * g + 2) = ts g) (ha : ∀ g, g < G → mg (4 * g + 3) = ta g) (hp : mr 0 = tp) {lt st : Nat → Int32} {g o : Nat} {f : Int32} (hg : g < G) (ho : o < G) : ∃ lt' st', f_X12_toldRise mh mc mv mk mt ms mu mr mg lt st (nI g) (nI o) f = some (tr R tp tf ts ta g o f, lt', st') := by
  obtain ⟨lt', st', e⟩ := hY lt st (f + tf o) (ts g + ts o) (nI 0) (if ta g = ta o then nI 1 else nI 0) tp (nI 0) (by split; exact Or.inr rfl; exact Or.inl rfl)
  refine ⟨lt', st', ?_⟩
  have a1 := hf o ho
  have a2 := hs g hg
  have a3 := hs o ho
  have a4 := ha g hg
  have a5 := ha o ho
  simp (disch := omega) only [f_X12_toldRise, b_X12_toldRise_0, of_c, areAllies_c, a1, a2, a3, a4, a5, hp, e, tr, neg_nI, lit_nI, nI_add, pk_mul, pk_sub, nI_clamp, inB_nI, gd_true, bnd_def, nI_leI, nI_ltI, nI_eq, nI_mI, mI_nI, nle_T, nle_F, nlt_T, nlt_F, neq_T, neq_F, ↓reduceIte, Nat.add_zero, Nat.zero_add, Nat.mul_zero, Nat.reduceAdd, Nat.reduceMul, Nat.reduceSub, ob1_e, ob2_e, ob3_e, ob4_e, ob6_e]
theorem allow_l (hX : RiseX R lh ll l0 l1 l2 l3) (hG : G ≤ 6) (hS : RS G q s1 s2 s3 s4 n1 n2 n3 n4) {g : Nat} (hg : g < G) {f : Int32} : ∀ (j k n : Nat) (lt st : Nat → Int32), k + j = q → j < n → ∃ lt' st', f_X8_allow_2 tp tf ts ta lh ll l0 l1 l2 l3 (nI q) s1 s2 s3 s4 n lt st (nI g) f (nI k) = some (bz (allF (okS R tp tf ts ta s1 s2 s3 s4 g f) j k), lt', st') := by
  intro j
  induction j with
  | zero =>
    intro k n lt st hk h1
    obtain ⟨n, rfl⟩ : ∃ q, n = q + 1 := ⟨n - 1, by omega⟩
    have hq := hS.1
    exact ⟨lt, st, by simp (disch := omega) only [f_X8_allow_2, f_X8_allow, b_X8_allow_82, b_X8_allow_55, b_X8_allow_30, b_X8_allow_2, b_X8_allow_0, allF, bz, neg_nI, lit_nI, nI_add, pk_mul, pk_sub, nI_clamp, inB_nI, gd_true, bnd_def, nI_leI, nI_ltI, nI_eq, nI_mI, mI_nI, nle_T, nle_F, nlt_T, nlt_F, neq_T, neq_F, ↓reduceIte, Nat.add_zero, Nat.zero_add, Nat.mul_zero, Nat.reduceAdd, Nat.reduceMul, Nat.reduceSub, ob1_e, ob2_e, ob3_e, ob4_e, ob6_e]⟩
  | succ j ih =>
    intro k n lt st hk h1
    obtain ⟨n, rfl⟩ : ∃ q, n = q + 1 := ⟨n - 1, by omega⟩
    have hq := hS.1
    obtain ⟨-, -, -, -, ⟨a, ha, e1⟩, b, hb, e2⟩ := hS.2 k (by omega)
    by_cases c1 : s1 k = nI g
    · have eo : oth s1 s2 g k = b := by unfold oth; rw [if_pos c1, e2, nI_clamp (by omega)]
      obtain ⟨lt1, st1, er⟩ := reaches_c (R := R) (tp := tp) (tf := tf) (ts := ts) (ta := ta) hX (lt := lt) (st := st) (g := g) (o := b) (f := f) (v := s3 k) ⟨by omega, by omega⟩
      by_cases hv : (if tr R tp tf ts ta g b f < s3 k then nI 0 else nI 1) = s4 k
      · obtain ⟨lt2, st2, ei⟩ := ih (k + 1) n lt1 st1 (by omega) (by omega)
        have ok : okS R tp tf ts ta s1 s2 s3 s4 g f k = true := by unfold okS; rw [eo]; exact decide_eq_true (Or.inr hv)
        refine ⟨lt2, st2, ?_⟩
        simp (disch := omega) only [f_X8_allow_2, f_X8_allow, b_X8_allow_82, b_X8_allow_55, b_X8_allow_30, b_X8_allow_2, b_X8_allow_0, c1, e2, er, hv, ei, allF, ok, Bool.true_and, neg_nI, lit_nI, nI_add, pk_mul, pk_sub, nI_clamp, inB_nI, gd_true, bnd_def, nI_leI, nI_ltI, nI_eq, nI_mI, mI_nI, nle_T, nle_F, nlt_T, nlt_F, neq_T, neq_F, ↓reduceIte, Nat.add_zero, Nat.zero_add, Nat.mul_zero, Nat.reduceAdd, Nat.reduceMul, Nat.reduceSub, ob1_e, ob2_e, ob3_e, ob4_e, ob6_e]
      · have ok : okS R tp tf ts ta s1 s2 s3 s4 g f k = false := by unfold okS; rw [eo]; exact decide_eq_false (fun z => z.elim (fun y => y (Or.inl c1)) hv)
        refine ⟨lt1, st1, ?_⟩
        simp (disch := omega) only [f_X8_allow_2, f_X8_allow, b_X8_allow_82, b_X8_allow_55, b_X8_allow_30, b_X8_allow_2, b_X8_allow_0, c1, e2, er, hv, allF, ok, Bool.false_and, bz, Bool.false_eq_true, neg_nI, lit_nI, nI_add, pk_mul, pk_sub, nI_clamp, inB_nI, gd_true, bnd_def, nI_leI, nI_ltI, nI_eq, nI_mI, mI_nI, nle_T, nle_F, nlt_T, nlt_F, neq_T, neq_F, ↓reduceIte, Nat.add_zero, Nat.zero_add, Nat.mul_zero, Nat.reduceAdd, Nat.reduceMul, Nat.reduceSub, ob1_e, ob2_e, ob3_e, ob4_e, ob6_e]
    · by_cases c2 : s2 k = nI g
      · have eo : oth s1 s2 g k = a := by unfold oth; rw [if_neg c1, e1, nI_clamp (by omega)]
        obtain ⟨lt1, st1, er⟩ := reaches_c (R := R) (tp := tp) (tf := tf) (ts := ts) (ta := ta) hX (lt := lt) (st := st) (g := g) (o := a) (f := f) (v := s3 k) ⟨by omega, by omega⟩
        have c1' : ¬ nI a = nI g := by rw [← e1]; exact c1
        by_cases hv : (if tr R tp tf ts ta g a f < s3 k then nI 0 else nI 1) = s4 k
        · obtain ⟨lt2, st2, ei⟩ := ih (k + 1) n lt1 st1 (by omega) (by omega)
          have ok : okS R tp tf ts ta s1 s2 s3 s4 g f k = true := by unfold okS; rw [eo]; exact decide_eq_true (Or.inr hv)
          refine ⟨lt2, st2, ?_⟩
          simp (disch := omega) only [f_X8_allow_2, f_X8_allow, b_X8_allow_82, b_X8_allow_55, b_X8_allow_30, b_X8_allow_2, b_X8_allow_0, e1, c1', c2, er, hv, ei, allF, ok, Bool.true_and, neg_nI, lit_nI, nI_add, pk_mul, pk_sub, nI_clamp, inB_nI, gd_true, bnd_def, nI_leI, nI_ltI, nI_eq, nI_mI, mI_nI, nle_T, nle_F, nlt_T, nlt_F, neq_T, neq_F, ↓reduceIte, Nat.add_zero, Nat.zero_add, Nat.mul_zero, Nat.reduceAdd, Nat.reduceMul, Nat.reduceSub, ob1_e, ob2_e, ob3_e, ob4_e, ob6_e]
        · have ok : okS R tp tf ts ta s1 s2 s3 s4 g f k = false := by unfold okS; rw [eo]; exact decide_eq_false (fun z => z.elim (fun y => y (Or.inr c2)) hv)
          refine ⟨lt1, st1, ?_⟩
          simp (disch := omega) only [f_X8_allow_2, f_X8_allow, b_X8_allow_82, b_X8_allow_55, b_X8_allow_30, b_X8_allow_2, b_X8_allow_0, e1, c1', c2, er, hv, allF, ok, Bool.false_and, bz, Bool.false_eq_true, neg_nI, lit_nI, nI_add, pk_mul, pk_sub, nI_clamp, inB_nI, gd_true, bnd_def, nI_leI, nI_ltI, nI_eq, nI_mI, mI_nI, nle_T, nle_F, nlt_T, nlt_F, neq_T, neq_F, ↓reduceIte, Nat.add_zero, Nat.zero_add, Nat.mul_zero, Nat.reduceAdd, Nat.reduceMul, Nat.reduceSub, ob1_e, ob2_e, ob3_e, ob4_e, ob6_e]
      · obtain ⟨lt2, st2, ei⟩ := ih (k + 1) n lt st (by omega) (by omega)
        have ok : okS R tp tf ts ta s1 s2 s3 s4 g f k = true := by unfold okS; exact decide_eq_true (Or.inl (fun z => z.elim c1 c2))
        refine ⟨lt2, st2, ?_⟩
        simp (disch := omega) only [f_X8_allow_2, f_X8_allow, b_X8_allow_82, b_X8_allow_55, b_X8_allow_30, b_X8_allow_2, b_X8_allow_0, c1, c2, ei, allF, ok, Bool.true_and, neg_nI, lit_nI, nI_add, pk_mul, pk_sub, nI_clamp, inB_nI, gd_true, bnd_def, nI_leI, nI_ltI, nI_eq, nI_mI, mI_nI, nle_T, nle_F, nlt_T, nlt_F, neq_T, neq_F, ↓reduceIte, Nat.add_zero, Nat.zero_add, Nat.mul_zero, Nat.reduceAdd, Nat.reduceMul, Nat.reduceSub, ob1_e, ob2_e, ob3_e, ob4_e, ob6_e]
theorem freedom_l (hY : RiseY R mh mc mv mk mt ms mu) (hG : G ≤ 6) (hf : ∀ g, g < G → mg (4 * g + 1) = tf g) (hs : ∀ g, g < G → mg (4 * g + 2) = ts g) (ha : ∀ g, g < G → mg (4 * g + 3) = ta g) (hp : mr 0 = tp) (hS : RS G q s1 s2 s3 s4 n1 n2 n3 n4) {g : Nat} (hg : g < G) {f : Int32} : ∀ (j k n : Nat) (lt st : Nat → Int32), k + j = q → j < n → ∃ lt' st', f_X12_isFreedom_2 mh (nI q) mc mv mk mt ms mu mr mg n1 n2 n3 n4 n lt st (nI g) f (nI k) = some (bz (allF (okS R tp tf ts ta s1 s2 s3 s4 g f) j k), lt', st') := by
  intro j
  induction j with
  | zero =>
    intro k n lt st hk h1
    obtain ⟨n, rfl⟩ : ∃ q, n = q + 1 := ⟨n - 1, by omega⟩
    have hq := hS.1
    exact ⟨lt, st, by simp (disch := omega) only [f_X12_isFreedom_2, f_X12_isFreedom, b_X12_isFreedom_90, b_X12_isFreedom_79, b_X12_isFreedom_55, b_X12_isFreedom_30, b_X12_isFreedom_2, b_X12_isFreedom_0, allF, bz, neg_nI, lit_nI, nI_add, pk_mul, pk_sub, nI_clamp, inB_nI, gd_true, bnd_def, nI_leI, nI_ltI, nI_eq, nI_mI, mI_nI, nle_T, nle_F, nlt_T, nlt_F, neq_T, neq_F, ↓reduceIte, Nat.add_zero, Nat.zero_add, Nat.mul_zero, Nat.reduceAdd, Nat.reduceMul, Nat.reduceSub, ob1_e, ob2_e, ob3_e, ob4_e, ob6_e]⟩
  | succ j ih =>
    intro k n lt st hk h1
    obtain ⟨n, rfl⟩ : ∃ q, n = q + 1 := ⟨n - 1, by omega⟩
    have hq := hS.1
    obtain ⟨m1, m2, m3, m4, ⟨a, ha1, e1⟩, b, hb, e2⟩ := hS.2 k (by omega)
    by_cases c1 : s1 k = nI g
    · have eo : oth s1 s2 g k = b := by unfold oth; rw [if_pos c1, e2, nI_clamp (by omega)]
      obtain ⟨lt1, st1, er⟩ := toldRise_c (R := R) (tp := tp) (tf := tf) (ts := ts) (ta := ta) hY hG hf hs ha hp (lt := lt) (st := st) (g := g) (o := b) (f := f) hg hb
      by_cases hv : (if tr R tp tf ts ta g b f < s3 k then nI 0 else nI 1) = s4 k
      · obtain ⟨lt2, st2, ei⟩ := ih (k + 1) n lt1 st1 (by omega) (by omega)
        have ok : okS R tp tf ts ta s1 s2 s3 s4 g f k = true := by unfold okS; rw [eo]; exact decide_eq_true (Or.inr hv)
        refine ⟨lt2, st2, ?_⟩
        by_cases hw : tr R tp tf ts ta g b f < s3 k
        · rw [if_pos hw] at hv
          simp (disch := omega) only [f_X12_isFreedom_2, f_X12_isFreedom, b_X12_isFreedom_90, b_X12_isFreedom_79, b_X12_isFreedom_55, b_X12_isFreedom_30, b_X12_isFreedom_2, b_X12_isFreedom_0, m1, m2, m3, m4, c1, e2, er, hw, ← hv, ei, allF, ok, Bool.true_and, neg_nI, lit_nI, nI_add, pk_mul, pk_sub, nI_clamp, inB_nI, gd_true, bnd_def, nI_leI, nI_ltI, nI_eq, nI_mI, mI_nI, nle_T, nle_F, nlt_T, nlt_F, neq_T, neq_F, ↓reduceIte, Nat.add_zero, Nat.zero_add, Nat.mul_zero, Nat.reduceAdd, Nat.reduceMul, Nat.reduceSub, ob1_e, ob2_e, ob3_e, ob4_e, ob6_e]
        · rw [if_neg hw] at hv
          simp (disch := omega) only [f_X12_isFreedom_2, f_X12_isFreedom, b_X12_isFreedom_90, b_X12_isFreedom_79, b_X12_isFreedom_55, b_X12_isFreedom_30, b_X12_isFreedom_2, b_X12_isFreedom_0, m1, m2, m3, m4, c1, e2, er, hw, ← hv, ei, allF, ok, Bool.true_and, neg_nI, lit_nI, nI_add, pk_mul, pk_sub, nI_clamp, inB_nI, gd_true, bnd_def, nI_leI, nI_ltI, nI_eq, nI_mI, mI_nI, nle_T, nle_F, nlt_T, nlt_F, neq_T, neq_F, ↓reduceIte, Nat.add_zero, Nat.zero_add, Nat.mul_zero, Nat.reduceAdd, Nat.reduceMul, Nat.reduceSub, ob1_e, ob2_e, ob3_e, ob4_e, ob6_e]
      · have ok : okS R tp tf ts ta s1 s2 s3 s4 g f k = false := by unfold okS; rw [eo]; exact decide_eq_false (fun z => z.elim (fun y => y (Or.inl c1)) hv)
        refine ⟨lt1, st1, ?_⟩
        by_cases hw : tr R tp tf ts ta g b f < s3 k
        · rw [if_pos hw] at hv
          simp (disch := omega) only [f_X12_isFreedom_2, f_X12_isFreedom, b_X12_isFreedom_90, b_X12_isFreedom_79, b_X12_isFreedom_55, b_X12_isFreedom_30, b_X12_isFreedom_2, b_X12_isFreedom_0, m1, m2, m3, m4, c1, e2, er, hw, hv, allF, ok, Bool.false_and, bz, Bool.false_eq_true, neg_nI, lit_nI, nI_add, pk_mul, pk_sub, nI_clamp, inB_nI, gd_true, bnd_def, nI_leI, nI_ltI, nI_eq, nI_mI, mI_nI, nle_T, nle_F, nlt_T, nlt_F, neq_T, neq_F, ↓reduceIte, Nat.add_zero, Nat.zero_add, Nat.mul_zero, Nat.reduceAdd, Nat.reduceMul, Nat.reduceSub, ob1_e, ob2_e, ob3_e, ob4_e, ob6_e]
        · rw [if_neg hw] at hv
          simp (disch := omega) only [f_X12_isFreedom_2, f_X12_isFreedom, b_X12_isFreedom_90, b_X12_isFreedom_79, b_X12_isFreedom_55, b_X12_isFreedom_30, b_X12_isFreedom_2, b_X12_isFreedom_0, m1, m2, m3, m4, c1, e2, er, hw, hv, allF, ok, Bool.false_and, bz, Bool.false_eq_true, neg_nI, lit_nI, nI_add, pk_mul, pk_sub, nI_clamp, inB_nI, gd_true, bnd_def, nI_leI, nI_ltI, nI_eq, nI_mI, mI_nI, nle_T, nle_F, nlt_T, nlt_F, neq_T, neq_F, ↓reduceIte, Nat.add_zero, Nat.zero_add, Nat.mul_zero, Nat.reduceAdd, Nat.reduceMul, Nat.reduceSub, ob1_e, ob2_e, ob3_e, ob4_e, ob6_e]
    · by_cases c2 : s2 k = nI g
      · have eo : oth s1 s2 g k = a := by unfold oth; rw [if_neg c1, e1, nI_clamp (by omega)]
        obtain ⟨lt1, st1, er⟩ := toldRise_c (R := R) (tp := tp) (tf := tf) (ts := ts) (ta := ta) hY hG hf hs ha hp (lt := lt) (st := st) (g := g) (o := a) (f := f) hg ha1
        have c1' : ¬ nI a = nI g := by rw [← e1]; exact c1
        by_cases hv : (if tr R tp tf ts ta g a f < s3 k then nI 0 else nI 1) = s4 k
        · obtain ⟨lt2, st2, ei⟩ := ih (k + 1) n lt1 st1 (by omega) (by omega)
          have ok : okS R tp tf ts ta s1 s2 s3 s4 g f k = true := by unfold okS; rw [eo]; exact decide_eq_true (Or.inr hv)
          refine ⟨lt2, st2, ?_⟩
          by_cases hw : tr R tp tf ts ta g a f < s3 k
          · rw [if_pos hw] at hv
            simp (disch := omega) only [f_X12_isFreedom_2, f_X12_isFreedom, b_X12_isFreedom_90, b_X12_isFreedom_79, b_X12_isFreedom_55, b_X12_isFreedom_30, b_X12_isFreedom_2, b_X12_isFreedom_0, m1, m2, m3, m4, e1, c1', c2, er, hw, ← hv, ei, allF, ok, Bool.true_and, neg_nI, lit_nI, nI_add, pk_mul, pk_sub, nI_clamp, inB_nI, gd_true, bnd_def, nI_leI, nI_ltI, nI_eq, nI_mI, mI_nI, nle_T, nle_F, nlt_T, nlt_F, neq_T, neq_F, ↓reduceIte, Nat.add_zero, Nat.zero_add, Nat.mul_zero, Nat.reduceAdd, Nat.reduceMul, Nat.reduceSub, ob1_e, ob2_e, ob3_e, ob4_e, ob6_e]
          · rw [if_neg hw] at hv
            simp (disch := omega) only [f_X12_isFreedom_2, f_X12_isFreedom, b_X12_isFreedom_90, b_X12_isFreedom_79, b_X12_isFreedom_55, b_X12_isFreedom_30, b_X12_isFreedom_2, b_X12_isFreedom_0, m1, m2, m3, m4, e1, c1', c2, er, hw, ← hv, ei, allF, ok, Bool.true_and, neg_nI, lit_nI, nI_add, pk_mul, pk_sub, nI_clamp, inB_nI, gd_true, bnd_def, nI_leI, nI_ltI, nI_eq, nI_mI, mI_nI, nle_T, nle_F, nlt_T, nlt_F, neq_T, neq_F, ↓reduceIte, Nat.add_zero, Nat.zero_add, Nat.mul_zero, Nat.reduceAdd, Nat.reduceMul, Nat.reduceSub, ob1_e, ob2_e, ob3_e, ob4_e, ob6_e]
        · have ok : okS R tp tf ts ta s1 s2 s3 s4 g f k = false := by unfold okS; rw [eo]; exact decide_eq_false (fun z => z.elim (fun y => y (Or.inr c2)) hv)
          refine ⟨lt1, st1, ?_⟩
          by_cases hw : tr R tp tf ts ta g a f < s3 k
          · rw [if_pos hw] at hv
            simp (disch := omega) only [f_X12_isFreedom_2, f_X12_isFreedom, b_X12_isFreedom_90, b_X12_isFreedom_79, b_X12_isFreedom_55, b_X12_isFreedom_30, b_X12_isFreedom_2, b_X12_isFreedom_0, m1, m2, m3, m4, e1, c1', c2, er, hw, hv, allF, ok, Bool.false_and, bz, Bool.false_eq_true, neg_nI, lit_nI, nI_add, pk_mul, pk_sub, nI_clamp, inB_nI, gd_true, bnd_def, nI_leI, nI_ltI, nI_eq, nI_mI, mI_nI, nle_T, nle_F, nlt_T, nlt_F, neq_T, neq_F, ↓reduceIte, Nat.add_zero, Nat.zero_add, Nat.mul_zero, Nat.reduceAdd, Nat.reduceMul, Nat.reduceSub, ob1_e, ob2_e, ob3_e, ob4_e, ob6_e]
          · rw [if_neg hw] at hv
            simp (disch := omega) only [f_X12_isFreedom_2, f_X12_isFreedom, b_X12_isFreedom_90, b_X12_isFreedom_79, b_X12_isFreedom_55, b_X12_isFreedom_30, b_X12_isFreedom_2, b_X12_isFreedom_0, m1, m2, m3, m4, e1, c1', c2, er, hw, hv, allF, ok, Bool.false_and, bz, Bool.false_eq_true, neg_nI, lit_nI, nI_add, pk_mul, pk_sub, nI_clamp, inB_nI, gd_true, bnd_def, nI_leI, nI_ltI, nI_eq, nI_mI, mI_nI, nle_T, nle_F, nlt_T, nlt_F, neq_T, neq_F, ↓reduceIte, Nat.add_zero, Nat.zero_add, Nat.mul_zero, Nat.reduceAdd, Nat.reduceMul, Nat.reduceSub, ob1_e, ob2_e, ob3_e, ob4_e, ob6_e]
      · obtain ⟨lt2, st2, ei⟩ := ih (k + 1) n lt st (by omega) (by omega)
        have ok : okS R tp tf ts ta s1 s2 s3 s4 g f k = true := by unfold okS; exact decide_eq_true (Or.inl (fun z => z.elim c1 c2))
        refine ⟨lt2, st2, ?_⟩
        simp (disch := omega) only [f_X12_isFreedom_2, f_X12_isFreedom, b_X12_isFreedom_90, b_X12_isFreedom_79, b_X12_isFreedom_55, b_X12_isFreedom_30, b_X12_isFreedom_2, b_X12_isFreedom_0, m1, m2, c1, c2, ei, allF, ok, Bool.true_and, neg_nI, lit_nI, nI_add, pk_mul, pk_sub, nI_clamp, inB_nI, gd_true, bnd_def, nI_leI, nI_ltI, nI_eq, nI_mI, mI_nI, nle_T, nle_F, nlt_T, nlt_F, neq_T, neq_F, ↓reduceIte, Nat.add_zero, Nat.zero_add, Nat.mul_zero, Nat.reduceAdd, Nat.reduceMul, Nat.reduceSub, ob1_e, ob2_e, ob3_e, ob4_e, ob6_e]
end SE
