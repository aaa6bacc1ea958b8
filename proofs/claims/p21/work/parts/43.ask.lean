/-! ask -/
theorem bbF_none {p : Nat → Bool} : ∀ (j k : Nat) (v : Int32), (∀ i, k ≤ i → i < k + j → p i = false) → bbF p j k v = v
  | 0, _, _, _ => rfl
  | j + 1, k, v, h => by
    unfold bbF
    rw [h k (by omega) (by omega), if_neg Bool.false_ne_true]
    exact bbF_none j (k + 1) v (fun i h1 h2 => h i (by omega) (by omega))
theorem ftF_none {p : Nat → Bool} : ∀ (j k : Nat), k + j ≤ 100 → (ftF p (nI 0) j k (nI 0) = mI 1 ↔ ∀ i, k ≤ i → i < k + j → p i = false)
  | 0, k, _ => by
    have e : ¬ nI 0 = mI 1 := by decide
    unfold ftF
    rw [if_neg e]
    exact ⟨fun _ i h1 h2 => by omega, fun _ => rfl⟩
  | j + 1, k, h => by
    unfold ftF
    by_cases hp : p k = true
    · rw [if_pos hp, if_pos rfl, nI_mI ⟨by omega, by omega, by omega⟩]
      refine ⟨fun z => z.elim, fun z => ?_⟩
      rw [z k (by omega) (by omega)] at hp
      exact Bool.false_ne_true hp
    · rw [if_neg hp, ftF_none j (k + 1) (by omega)]
      refine ⟨fun z i h1 h2 => ?_, fun z i h1 h2 => z i (by omega) (by omega)⟩
      by_cases e : i = k
      · rw [e]
        exact Bool.eq_false_iff.mpr hp
      · exact z i (by omega) (by omega)
section SK
variable {R : R6} {lh : Int32} {ll l0 l1 l2 l3 : Nat → Int32} {mh : Int32} {mc mv mk mt ms mu : Nat → Int32}
variable {G q : Nat} {tp : Int32} {th tf ts ta mg mr s1 s2 s3 s4 n1 n2 n3 n4 : Nat → Int32}
theorem fitting_l (hX : RiseX R lh ll l0 l1 l2 l3) (hG : G ≤ 6) (hS : RS G q s1 s2 s3 s4 n1 n2 n3 n4) {g : Nat} (hg : g < G) : ∀ (j k n : Nat) (lt st : Nat → Int32) (v : Int32), k + j = 10 → j < n → ∃ lt' st', f_X8_fitting_4 tp tf ts ta lh ll l0 l1 l2 l3 (nI q) s1 s2 s3 s4 n lt st (nI g) v (nI k) = some (bbF (pF R tp tf ts ta s1 s2 s3 s4 q g) j k v, lt', st') := by
  intro j
  induction j with
  | zero =>
    intro k n lt st v hk h1
    obtain ⟨n, rfl⟩ : ∃ q, n = q + 1 := ⟨n - 1, by omega⟩
    exact ⟨lt, st, by simp (disch := omega) only [f_X8_fitting_4, f_X8_fitting, b_X8_fitting_25, b_X8_fitting_4, b_X8_fitting_0, bbF, neg_nI, lit_nI, nI_add, pk_mul, pk_sub, nI_clamp, inB_nI, gd_true, bnd_def, nI_leI, nI_ltI, nI_eq, nI_mI, mI_nI, nle_T, nle_F, nlt_T, nlt_F, neq_T, neq_F, ↓reduceIte, Nat.add_zero, Nat.zero_add, Nat.mul_zero, Nat.reduceAdd, Nat.reduceMul, Nat.reduceSub, ob1_e, ob2_e, ob3_e, ob4_e, ob6_e]⟩
  | succ j ih =>
    intro k n lt st v hk h1
    obtain ⟨n, rfl⟩ : ∃ q, n = q + 1 := ⟨n - 1, by omega⟩
    obtain ⟨lt1, st1, e⟩ := allow_c (R := R) (tp := tp) (tf := tf) (ts := ts) (ta := ta) hX hG hS (k := k) hg lt st
    cases hp : pF R tp tf ts ta s1 s2 s3 s4 q g k with
    | true =>
      rw [hp] at e
      obtain ⟨lt2, st2, e2⟩ := ih (k + 1) n lt1 st1 (v ||| ((1 : Int32) <<< (nI k &&& nI 31))) (by omega) (by omega)
      refine ⟨lt2, st2, ?_⟩
      have e3 : bbF (pF R tp tf ts ta s1 s2 s3 s4 q g) (j + 1) k v = bbF (pF R tp tf ts ta s1 s2 s3 s4 q g) j (k + 1) (v ||| ((1 : Int32) <<< (nI k &&& nI 31))) := by rw [bbF, if_pos hp]
      rw [e3, ← e2]
      simp (disch := omega) only [f_X8_fitting_4, f_X8_fitting, b_X8_fitting_25, b_X8_fitting_4, b_X8_fitting_0, e, bz_t, neg_nI, lit_nI, nI_add, pk_mul, pk_sub, nI_clamp, inB_nI, gd_true, bnd_def, nI_leI, nI_ltI, nI_eq, nI_mI, mI_nI, nle_T, nle_F, nlt_T, nlt_F, neq_T, neq_F, ↓reduceIte, Nat.add_zero, Nat.zero_add, Nat.mul_zero, Nat.reduceAdd, Nat.reduceMul, Nat.reduceSub, ob1_e, ob2_e, ob3_e, ob4_e, ob6_e]
    | false =>
      rw [hp] at e
      obtain ⟨lt2, st2, e2⟩ := ih (k + 1) n lt1 st1 v (by omega) (by omega)
      refine ⟨lt2, st2, ?_⟩
      simp (disch := omega) only [f_X8_fitting_4, f_X8_fitting, b_X8_fitting_25, b_X8_fitting_4, b_X8_fitting_0, bbF, e, bz_f, hp, e2, Bool.false_eq_true, neg_nI, lit_nI, nI_add, pk_mul, pk_sub, nI_clamp, inB_nI, gd_true, bnd_def, nI_leI, nI_ltI, nI_eq, nI_mI, mI_nI, nle_T, nle_F, nlt_T, nlt_F, neq_T, neq_F, ↓reduceIte, Nat.add_zero, Nat.zero_add, Nat.mul_zero, Nat.reduceAdd, Nat.reduceMul, Nat.reduceSub, ob1_e, ob2_e, ob3_e, ob4_e, ob6_e]
theorem gapX_l (hX : RiseX R lh ll l0 l1 l2 l3) {p : Nat → Bool} {fit v : Int32} (hb : ∀ i, i < 10 → bt fit i = p i) {g o : Nat} (h : g < 6 ∧ o < 6) : ∀ (j k n : Nat) (lt st : Nat → Int32) (x : Int32), k + j = 10 → j < n → ∃ lt' st', f_X8_gap_6 tp tf ts ta lh ll l0 l1 l2 l3 n lt st (nI g) (nI o) v fit x (nI k) = some (ab (gpF p (fun f => tr R tp tf ts ta g o (nI f)) v j k x), lt', st') := by
  intro j
  induction j with
  | zero =>
    intro k n lt st x hk h1
    obtain ⟨n, rfl⟩ : ∃ q, n = q + 1 := ⟨n - 1, by omega⟩
    exact ⟨lt, st, by simp (disch := omega) only [f_X8_gap_6, f_X8_gap, b_X8_gap_46, b_X8_gap_43, b_X8_gap_6, b_X8_gap_0, gpF, neg_nI, lit_nI, nI_add, pk_mul, pk_sub, nI_clamp, inB_nI, gd_true, bnd_def, nI_leI, nI_ltI, nI_eq, nI_mI, mI_nI, nle_T, nle_F, nlt_T, nlt_F, neq_T, neq_F, ↓reduceIte, Nat.add_zero, Nat.zero_add, Nat.mul_zero, Nat.reduceAdd, Nat.reduceMul, Nat.reduceSub, ob1_e, ob2_e, ob3_e, ob4_e, ob6_e]⟩
  | succ j ih =>
    intro k n lt st x hk h1
    obtain ⟨n, rfl⟩ : ∃ q, n = q + 1 := ⟨n - 1, by omega⟩
    have hbk := hb k (by omega)
    cases hp : p k with
    | true =>
      rw [hp] at hbk
      obtain ⟨lt1, st1, e⟩ := reaches_c (R := R) (tp := tp) (tf := tf) (ts := ts) (ta := ta) hX (lt := lt) (st := st) (g := g) (o := o) (f := nI k) (v := v) h
      by_cases ht : tr R tp tf ts ta g o (nI k) < v
      · rw [if_pos ht] at e
        obtain ⟨lt2, st2, e2⟩ := ih (k + 1) n lt1 st1 (x + mI 1) (by omega) (by omega)
        refine ⟨lt2, st2, ?_⟩
        simp (disch := omega) only [f_X8_gap_6, f_X8_gap, b_X8_gap_46, b_X8_gap_43, b_X8_gap_6, b_X8_gap_0, gpF, bit1, hbk, hp, e, ht, e2, neg_nI, lit_nI, nI_add, pk_mul, pk_sub, nI_clamp, inB_nI, gd_true, bnd_def, nI_leI, nI_ltI, nI_eq, nI_mI, mI_nI, nle_T, nle_F, nlt_T, nlt_F, neq_T, neq_F, ↓reduceIte, Nat.add_zero, Nat.zero_add, Nat.mul_zero, Nat.reduceAdd, Nat.reduceMul, Nat.reduceSub, ob1_e, ob2_e, ob3_e, ob4_e, ob6_e]
      · rw [if_neg ht] at e
        obtain ⟨lt2, st2, e2⟩ := ih (k + 1) n lt1 st1 (x + nI 1) (by omega) (by omega)
        refine ⟨lt2, st2, ?_⟩
        simp (disch := omega) only [f_X8_gap_6, f_X8_gap, b_X8_gap_46, b_X8_gap_43, b_X8_gap_6, b_X8_gap_0, gpF, bit1, hbk, hp, e, ht, e2, neg_nI, lit_nI, nI_add, pk_mul, pk_sub, nI_clamp, inB_nI, gd_true, bnd_def, nI_leI, nI_ltI, nI_eq, nI_mI, mI_nI, nle_T, nle_F, nlt_T, nlt_F, neq_T, neq_F, ↓reduceIte, Nat.add_zero, Nat.zero_add, Nat.mul_zero, Nat.reduceAdd, Nat.reduceMul, Nat.reduceSub, ob1_e, ob2_e, ob3_e, ob4_e, ob6_e]
    | false =>
      rw [hp] at hbk
      obtain ⟨lt2, st2, e2⟩ := ih (k + 1) n lt st x (by omega) (by omega)
      refine ⟨lt2, st2, ?_⟩
      simp (disch := omega) only [f_X8_gap_6, f_X8_gap, b_X8_gap_46, b_X8_gap_43, b_X8_gap_6, b_X8_gap_0, gpF, bit1, hbk, hp, e2, Bool.false_eq_true, neg_nI, lit_nI, nI_add, pk_mul, pk_sub, nI_clamp, inB_nI, gd_true, bnd_def, nI_leI, nI_ltI, nI_eq, nI_mI, mI_nI, nle_T, nle_F, nlt_T, nlt_F, neq_T, neq_F, ↓reduceIte, Nat.add_zero, Nat.zero_add, Nat.mul_zero, Nat.reduceAdd, Nat.reduceMul, Nat.reduceSub, ob1_e, ob2_e, ob3_e, ob4_e, ob6_e]
theorem askY_in (hY : RiseY R mh mc mv mk mt ms mu) (hG : G ≤ 6) (hh : ∀ g, g < G → mg (4 * g) = th g) (hf : ∀ g, g < G → mg (4 * g + 1) = tf g) (hs : ∀ g, g < G → mg (4 * g + 2) = ts g) (ha : ∀ g, g < G → mg (4 * g + 3) = ta g) (hpp : mr 0 = tp) (hS : RS G q s1 s2 s3 s4 n1 n2 n3 n4) {g o : Nat} (hg : g < G) (ho : o < G) (ht : ¬ th g = th o) {v best least : Int32} {k39 : (Nat → Int32) → (Nat → Int32) → Int32 → Int32 → Int32 → Int32 → Int32 → Option (Int32 × (Nat → Int32) × (Nat → Int32))} : ∀ (j k n : Nat) (lt st : Nat → Int32) (x : Int32), k + j = 10 → j < n → ∃ lt' st', f_X12_ask_54 (nI G) mh (nI q) mc mv mk mt ms mu mr mg n1 n2 n3 n4 k39 n lt st (nI g) v best least (nI o) x (nI k) = (if best = mI 1 ∨ ¬ least ≤ ab (gpF (pF R tp tf ts ta s1 s2 s3 s4 q g) (fun f => tr R tp tf ts ta g o (nI f)) v j k x) then k39 lt' st' (nI g) v (nI o) (ab (gpF (pF R tp tf ts ta s1 s2 s3 s4 q g) (fun f => tr R tp tf ts ta g o (nI f)) v j k x)) (nI (o + 1)) else k39 lt' st' (nI g) v best least (nI (o + 1))) := by
  have g1 := hh g hg
  have g2 := hh o ho
  intro j
  induction j with
  | zero =>
    intro k n lt st x hk h1
    obtain ⟨n, rfl⟩ : ∃ q, n = q + 1 := ⟨n - 1, by omega⟩
    refine ⟨lt, st, ?_⟩
    show _ = (if best = mI 1 ∨ ¬ least ≤ ab x then k39 lt st (nI g) v (nI o) (ab x) (nI (o + 1)) else k39 lt st (nI g) v best least (nI (o + 1)))
    by_cases hb : best = mI 1
    · rw [if_pos (Or.inl hb)]
      simp (disch := omega) only [f_X12_ask_54, f_X12_ask, b_X12_ask_105, b_X12_ask_83, b_X12_ask_149, b_X12_ask_139, b_X12_ask_54, b_X12_ask_39, b_X12_ask_0, areTwo_c, g1, g2, ht, hb, neg_nI, lit_nI, nI_add, pk_mul, pk_sub, nI_clamp, inB_nI, gd_true, bnd_def, nI_leI, nI_ltI, nI_eq, nI_mI, mI_nI, nle_T, nle_F, nlt_T, nlt_F, neq_T, neq_F, ↓reduceIte, Nat.add_zero, Nat.zero_add, Nat.mul_zero, Nat.reduceAdd, Nat.reduceMul, Nat.reduceSub, ob1_e, ob2_e, ob3_e, ob4_e, ob6_e]
    · by_cases hl : least ≤ ab x
      · rw [if_neg (fun z => z.elim hb (fun y => y hl))]
        simp (disch := omega) only [f_X12_ask_54, f_X12_ask, b_X12_ask_105, b_X12_ask_83, b_X12_ask_149, b_X12_ask_139, b_X12_ask_54, b_X12_ask_39, b_X12_ask_0, areTwo_c, g1, g2, ht, hb, hl, neg_nI, lit_nI, nI_add, pk_mul, pk_sub, nI_clamp, inB_nI, gd_true, bnd_def, nI_leI, nI_ltI, nI_eq, nI_mI, mI_nI, nle_T, nle_F, nlt_T, nlt_F, neq_T, neq_F, ↓reduceIte, Nat.add_zero, Nat.zero_add, Nat.mul_zero, Nat.reduceAdd, Nat.reduceMul, Nat.reduceSub, ob1_e, ob2_e, ob3_e, ob4_e, ob6_e]
      · rw [if_pos (Or.inr hl)]
        simp (disch := omega) only [f_X12_ask_54, f_X12_ask, b_X12_ask_105, b_X12_ask_83, b_X12_ask_149, b_X12_ask_139, b_X12_ask_54, b_X12_ask_39, b_X12_ask_0, areTwo_c, g1, g2, ht, hb, hl, neg_nI, lit_nI, nI_add, pk_mul, pk_sub, nI_clamp, inB_nI, gd_true, bnd_def, nI_leI, nI_ltI, nI_eq, nI_mI, mI_nI, nle_T, nle_F, nlt_T, nlt_F, neq_T, neq_F, ↓reduceIte, Nat.add_zero, Nat.zero_add, Nat.mul_zero, Nat.reduceAdd, Nat.reduceMul, Nat.reduceSub, ob1_e, ob2_e, ob3_e, ob4_e, ob6_e]
  | succ j ih =>
    intro k n lt st x hk h1
    obtain ⟨n, rfl⟩ : ∃ q, n = q + 1 := ⟨n - 1, by omega⟩
    have x0 : x + nI 0 = x := Int32.add_zero x
    obtain ⟨lt1, st1, e⟩ := freedom_c (R := R) (tp := tp) (tf := tf) (ts := ts) (ta := ta) hY hG hf hs ha hpp hS (k := k) hg lt st
    cases hp : pF R tp tf ts ta s1 s2 s3 s4 q g k with
    | true =>
      rw [hp] at e
      obtain ⟨lt2, st2, e2⟩ := toldRise_c (R := R) (tp := tp) (tf := tf) (ts := ts) (ta := ta) hY hG hf hs ha hpp (lt := lt1) (st := st1) (g := g) (o := o) (f := nI k) hg ho
      by_cases hv : tr R tp tf ts ta g o (nI k) < v
      · obtain ⟨lt3, st3, e3⟩ := ih (k + 1) n lt2 st2 (x + mI 1) (by omega) (by omega)
        have e4 : gpF (pF R tp tf ts ta s1 s2 s3 s4 q g) (fun f => tr R tp tf ts ta g o (nI f)) v (j + 1) k x = gpF (pF R tp tf ts ta s1 s2 s3 s4 q g) (fun f => tr R tp tf ts ta g o (nI f)) v j (k + 1) (x + mI 1) := by rw [gpF, if_pos hp, if_pos hv]
        refine ⟨lt3, st3, ?_⟩
        rw [e4, ← e3]
        simp (disch := omega) only [f_X12_ask_54, f_X12_ask, b_X12_ask_105, b_X12_ask_83, b_X12_ask_149, b_X12_ask_139, b_X12_ask_54, b_X12_ask_39, b_X12_ask_0, areTwo_c, g1, g2, ht, e, bz_t, e2, hv, neg_nI, lit_nI, nI_add, pk_mul, pk_sub, nI_clamp, inB_nI, gd_true, bnd_def, nI_leI, nI_ltI, nI_eq, nI_mI, mI_nI, nle_T, nle_F, nlt_T, nlt_F, neq_T, neq_F, ↓reduceIte, Nat.add_zero, Nat.zero_add, Nat.mul_zero, Nat.reduceAdd, Nat.reduceMul, Nat.reduceSub, ob1_e, ob2_e, ob3_e, ob4_e, ob6_e]
      · obtain ⟨lt3, st3, e3⟩ := ih (k + 1) n lt2 st2 (x + nI 1) (by omega) (by omega)
        have e4 : gpF (pF R tp tf ts ta s1 s2 s3 s4 q g) (fun f => tr R tp tf ts ta g o (nI f)) v (j + 1) k x = gpF (pF R tp tf ts ta s1 s2 s3 s4 q g) (fun f => tr R tp tf ts ta g o (nI f)) v j (k + 1) (x + nI 1) := by rw [gpF, if_pos hp, if_neg hv]
        refine ⟨lt3, st3, ?_⟩
        rw [e4, ← e3]
        simp (disch := omega) only [f_X12_ask_54, f_X12_ask, b_X12_ask_105, b_X12_ask_83, b_X12_ask_149, b_X12_ask_139, b_X12_ask_54, b_X12_ask_39, b_X12_ask_0, areTwo_c, g1, g2, ht, e, bz_t, e2, hv, neg_nI, lit_nI, nI_add, pk_mul, pk_sub, nI_clamp, inB_nI, gd_true, bnd_def, nI_leI, nI_ltI, nI_eq, nI_mI, mI_nI, nle_T, nle_F, nlt_T, nlt_F, neq_T, neq_F, ↓reduceIte, Nat.add_zero, Nat.zero_add, Nat.mul_zero, Nat.reduceAdd, Nat.reduceMul, Nat.reduceSub, ob1_e, ob2_e, ob3_e, ob4_e, ob6_e]
    | false =>
      rw [hp] at e
      obtain ⟨lt3, st3, e3⟩ := ih (k + 1) n lt1 st1 x (by omega) (by omega)
      have e4 : gpF (pF R tp tf ts ta s1 s2 s3 s4 q g) (fun f => tr R tp tf ts ta g o (nI f)) v (j + 1) k x = gpF (pF R tp tf ts ta s1 s2 s3 s4 q g) (fun f => tr R tp tf ts ta g o (nI f)) v j (k + 1) x := by rw [gpF, hp, if_neg Bool.false_ne_true]
      refine ⟨lt3, st3, ?_⟩
      rw [e4, ← e3]
      simp (disch := omega) only [f_X12_ask_54, f_X12_ask, b_X12_ask_105, b_X12_ask_83, b_X12_ask_149, b_X12_ask_139, b_X12_ask_54, b_X12_ask_39, b_X12_ask_0, areTwo_c, g1, g2, ht, e, bz_f, x0, neg_nI, lit_nI, nI_add, pk_mul, pk_sub, nI_clamp, inB_nI, gd_true, bnd_def, nI_leI, nI_ltI, nI_eq, nI_mI, mI_nI, nle_T, nle_F, nlt_T, nlt_F, neq_T, neq_F, ↓reduceIte, Nat.add_zero, Nat.zero_add, Nat.mul_zero, Nat.reduceAdd, Nat.reduceMul, Nat.reduceSub, ob1_e, ob2_e, ob3_e, ob4_e, ob6_e]
theorem askY_no (hG : G ≤ 6) (hh : ∀ g, g < G → mg (4 * g) = th g) {g o : Nat} (hg : g < G) (ho : o < G) (ht : th g = th o) {v best least : Int32} {k39 : (Nat → Int32) → (Nat → Int32) → Int32 → Int32 → Int32 → Int32 → Int32 → Option (Int32 × (Nat → Int32) × (Nat → Int32))} : ∀ (j k n : Nat) (lt st : Nat → Int32) (x : Int32), k + j = 10 → j < n → f_X12_ask_54 (nI G) mh (nI q) mc mv mk mt ms mu mr mg n1 n2 n3 n4 k39 n lt st (nI g) v best least (nI o) x (nI k) = k39 lt st (nI g) v best least (nI (o + 1)) := by
  have g1 := hh g hg
  have g2 := hh o ho
  intro j
  induction j with
  | zero =>
    intro k n lt st x hk h1
    obtain ⟨n, rfl⟩ : ∃ q, n = q + 1 := ⟨n - 1, by omega⟩
    simp (disch := omega) only [f_X12_ask_54, f_X12_ask, b_X12_ask_105, b_X12_ask_83, b_X12_ask_149, b_X12_ask_139, b_X12_ask_54, b_X12_ask_39, b_X12_ask_0, areTwo_c, g1, g2, ht, neg_nI, lit_nI, nI_add, pk_mul, pk_sub, nI_clamp, inB_nI, gd_true, bnd_def, nI_leI, nI_ltI, nI_eq, nI_mI, mI_nI, nle_T, nle_F, nlt_T, nlt_F, neq_T, neq_F, ↓reduceIte, Nat.add_zero, Nat.zero_add, Nat.mul_zero, Nat.reduceAdd, Nat.reduceMul, Nat.reduceSub, ob1_e, ob2_e, ob3_e, ob4_e, ob6_e]
  | succ j ih =>
    intro k n lt st x hk h1
    obtain ⟨n, rfl⟩ : ∃ q, n = q + 1 := ⟨n - 1, by omega⟩
    have x0 : x + nI 0 = x := Int32.add_zero x
    rw [← ih (k + 1) n lt st x (by omega) (by omega)]
    simp (disch := omega) only [f_X12_ask_54, f_X12_ask, b_X12_ask_105, b_X12_ask_83, b_X12_ask_149, b_X12_ask_139, b_X12_ask_54, b_X12_ask_39, b_X12_ask_0, areTwo_c, g1, g2, ht, x0, neg_nI, lit_nI, nI_add, pk_mul, pk_sub, nI_clamp, inB_nI, gd_true, bnd_def, nI_leI, nI_ltI, nI_eq, nI_mI, mI_nI, nle_T, nle_F, nlt_T, nlt_F, neq_T, neq_F, ↓reduceIte, Nat.add_zero, Nat.zero_add, Nat.mul_zero, Nat.reduceAdd, Nat.reduceMul, Nat.reduceSub, ob1_e, ob2_e, ob3_e, ob4_e, ob6_e]
def AK (bx lx by' ly : Int32) : Prop := (bx = mI 1 ∧ by' = mI 1 ∧ lx = nI 11) ∨ (∃ b, b < 6 ∧ bx = nI b ∧ by' = nI b ∧ lx = ly)
theorem ask_l (hX : RiseX R lh ll l0 l1 l2 l3) (hY : RiseY R mh mc mv mk mt ms mu) (hG : G ≤ 6) (hh : ∀ g, g < G → mg (4 * g) = th g) (hf : ∀ g, g < G → mg (4 * g + 1) = tf g) (hs : ∀ g, g < G → mg (4 * g + 2) = ts g) (ha : ∀ g, g < G → mg (4 * g + 3) = ta g) (hpp : mr 0 = tp) (hS : RS G q s1 s2 s3 s4 n1 n2 n3 n4) {g : Nat} (hg : g < G) {v fit : Int32} (hb : ∀ i, i < 10 → bt fit i = pF R tp tf ts ta s1 s2 s3 s4 q g i) : ∀ (j k n n' : Nat) (lt st lt2 st2 : Nat → Int32) (bx lx by' ly : Int32), k + j = G → j < n → j < n' → AK bx lx by' ly → ∃ r lt' st' lt2' st2', f_X11_ask_45 (nI G) tp th tf ts ta lh ll l0 l1 l2 l3 (nI q) s1 s2 s3 s4 n lt st (nI g) v fit bx lx (nI k) = some (r, lt', st') ∧ f_X12_ask_39 (nI G) mh (nI q) mc mv mk mt ms mu mr mg n1 n2 n3 n4 n' lt2 st2 (nI g) v by' ly (nI k) = some (r, lt2', st2') := by
  intro j
  induction j with
  | zero =>
    intro k n n' lt st lt2 st2 bx lx by' ly hk h1 h2 hA
    obtain ⟨n, rfl⟩ : ∃ q, n = q + 1 := ⟨n - 1, by omega⟩
    obtain ⟨n', rfl⟩ : ∃ q, n' = q + 1 := ⟨n' - 1, by omega⟩
    have eb : bx = by' := by
      rcases hA with ⟨a, b, -⟩ | ⟨b, -, a1, a2, -⟩
      · rw [a, b]
      · rw [a1, a2]
    subst eb
    refine ⟨bx, lt, st, lt2, st2, ?_, ?_⟩
    · simp (disch := omega) only [f_X11_ask_45, f_X11_ask, b_X11_ask_104, b_X11_ask_87, b_X11_ask_45, b_X11_ask_0, neg_nI, lit_nI, nI_add, pk_mul, pk_sub, nI_clamp, inB_nI, gd_true, bnd_def, nI_leI, nI_ltI, nI_eq, nI_mI, mI_nI, nle_T, nle_F, nlt_T, nlt_F, neq_T, neq_F, ↓reduceIte, Nat.add_zero, Nat.zero_add, Nat.mul_zero, Nat.reduceAdd, Nat.reduceMul, Nat.reduceSub, ob1_e, ob2_e, ob3_e, ob4_e, ob6_e]
    · simp (disch := omega) only [f_X12_ask_39, b_X12_ask_39, neg_nI, lit_nI, nI_add, pk_mul, pk_sub, nI_clamp, inB_nI, gd_true, bnd_def, nI_leI, nI_ltI, nI_eq, nI_mI, mI_nI, nle_T, nle_F, nlt_T, nlt_F, neq_T, neq_F, ↓reduceIte, Nat.add_zero, Nat.zero_add, Nat.mul_zero, Nat.reduceAdd, Nat.reduceMul, Nat.reduceSub, ob1_e, ob2_e, ob3_e, ob4_e, ob6_e]
  | succ j ih =>
    intro k n n' lt st lt2 st2 bx lx by' ly hk h1 h2 hA
    obtain ⟨n, rfl⟩ : ∃ q, n = q + 1 := ⟨n - 1, by omega⟩
    obtain ⟨n', rfl⟩ : ∃ q, n' = q + 1 := ⟨n' - 1, by omega⟩
    by_cases ht : th g = th k
    · have y1 := askY_no (mh := mh) (q := q) (mc := mc) (mv := mv) (mk := mk) (mt := mt) (ms := ms) (mu := mu) (mr := mr) (n1 := n1) (n2 := n2) (n3 := n3) (n4 := n4) hG hh hg (show k < G by omega) ht (v := v) (best := by') (least := ly) (k39 := f_X12_ask_39 (nI G) mh (nI q) mc mv mk mt ms mu mr mg n1 n2 n3 n4 n') 10 0 fu lt2 st2 (nI 0) (by omega) (by have := fu_le; omega)
      obtain ⟨r, lt', st', lt2', st2', e1, e2⟩ := ih (k + 1) n n' lt st lt2 st2 bx lx by' ly (by omega) (by omega) (by omega) hA
      have lrefl : lx ≤ lx := by rw [le32]; omega
      refine ⟨r, lt', st', lt2', st2', ?_, ?_⟩
      · rw [← e1]
        simp (disch := omega) only [f_X11_ask_45, f_X11_ask, b_X11_ask_104, b_X11_ask_87, b_X11_ask_45, b_X11_ask_0, unlike_c, ht, lrefl, neg_nI, lit_nI, nI_add, pk_mul, pk_sub, nI_clamp, inB_nI, gd_true, bnd_def, nI_leI, nI_ltI, nI_eq, nI_mI, mI_nI, nle_T, nle_F, nlt_T, nlt_F, neq_T, neq_F, ↓reduceIte, Nat.add_zero, Nat.zero_add, Nat.mul_zero, Nat.reduceAdd, Nat.reduceMul, Nat.reduceSub, ob1_e, ob2_e, ob3_e, ob4_e, ob6_e]
      · rw [← e2, ← y1]
        simp (disch := omega) only [f_X12_ask_39, b_X12_ask_39, neg_nI, lit_nI, nI_add, pk_mul, pk_sub, nI_clamp, inB_nI, gd_true, bnd_def, nI_leI, nI_ltI, nI_eq, nI_mI, mI_nI, nle_T, nle_F, nlt_T, nlt_F, neq_T, neq_F, ↓reduceIte, Nat.add_zero, Nat.zero_add, Nat.mul_zero, Nat.reduceAdd, Nat.reduceMul, Nat.reduceSub, ob1_e, ob2_e, ob3_e, ob4_e, ob6_e]
    · obtain ⟨lt1, st1, x1⟩ := gapX_l (R := R) (tp := tp) (tf := tf) (ts := ts) (ta := ta) hX (v := v) hb (g := g) (o := k) ⟨by omega, by omega⟩ 10 0 fu lt st (nI 0) (by omega) (by have := fu_le; omega)
      obtain ⟨lt3, st3, y1⟩ := askY_in (R := R) (th := th) (tp := tp) (tf := tf) (ts := ts) (ta := ta) hY hG hh hf hs ha hpp hS hg (show k < G by omega) ht (v := v) (best := by') (least := ly) (k39 := f_X12_ask_39 (nI G) mh (nI q) mc mv mk mt ms mu mr mg n1 n2 n3 n4 n') 10 0 fu lt2 st2 (nI 0) (by omega) (by have := fu_le; omega)
      have gb := gpF_b (p := pF R tp tf ts ta s1 s2 s3 s4 q g) (t := fun f => tr R tp tf ts ta g k (nI f)) (v := v) 10 0 (nI 0) 0 (by omega) (by decide) (by decide)
      have xg : f_X8_gap tp tf ts ta lh ll l0 l1 l2 l3 lt st (nI g) (nI k) v fit = some (ab (gpF (pF R tp tf ts ta s1 s2 s3 s4 q g) (fun f => tr R tp tf ts ta g k (nI f)) v 10 0 (nI 0)), lt1, st1) := x1
      have l11 := ab_lt (x := gpF (pF R tp tf ts ta s1 s2 s3 s4 q g) (fun f => tr R tp tf ts ta g k (nI f)) v 10 0 (nI 0)) (by omega) (by omega)
      generalize hX0 : ab (gpF (pF R tp tf ts ta s1 s2 s3 s4 q g) (fun f => tr R tp tf ts ta g k (nI f)) v 10 0 (nI 0)) = X at *
      rcases hA with ⟨rfl, rfl, rfl⟩ | ⟨b, hb6, rfl, rfl, rfl⟩
      · obtain ⟨r, lt', st', lt2', st2', e1, e2⟩ := ih (k + 1) n n' lt1 st1 lt3 st3 (nI k) X (nI k) X (by omega) (by omega) (by omega) (Or.inr ⟨k, by omega, rfl, rfl, rfl⟩)
        refine ⟨r, lt', st', lt2', st2', ?_, ?_⟩
        · rw [← e1]
          simp (disch := omega) only [f_X11_ask_45, f_X11_ask, b_X11_ask_104, b_X11_ask_87, b_X11_ask_45, b_X11_ask_0, unlike_c, ht, xg, l11, neg_nI, lit_nI, nI_add, pk_mul, pk_sub, nI_clamp, inB_nI, gd_true, bnd_def, nI_leI, nI_ltI, nI_eq, nI_mI, mI_nI, nle_T, nle_F, nlt_T, nlt_F, neq_T, neq_F, ↓reduceIte, Nat.add_zero, Nat.zero_add, Nat.mul_zero, Nat.reduceAdd, Nat.reduceMul, Nat.reduceSub, ob1_e, ob2_e, ob3_e, ob4_e, ob6_e]
        · rw [if_pos (Or.inl rfl)] at y1
          rw [← e2, ← y1]
          simp (disch := omega) only [f_X12_ask_39, b_X12_ask_39, neg_nI, lit_nI, nI_add, pk_mul, pk_sub, nI_clamp, inB_nI, gd_true, bnd_def, nI_leI, nI_ltI, nI_eq, nI_mI, mI_nI, nle_T, nle_F, nlt_T, nlt_F, neq_T, neq_F, ↓reduceIte, Nat.add_zero, Nat.zero_add, Nat.mul_zero, Nat.reduceAdd, Nat.reduceMul, Nat.reduceSub, ob1_e, ob2_e, ob3_e, ob4_e, ob6_e]
      · by_cases hl : lx ≤ X
        · obtain ⟨r, lt', st', lt2', st2', e1, e2⟩ := ih (k + 1) n n' lt1 st1 lt3 st3 (nI b) lx (nI b) lx (by omega) (by omega) (by omega) (Or.inr ⟨b, hb6, rfl, rfl, rfl⟩)
          refine ⟨r, lt', st', lt2', st2', ?_, ?_⟩
          · rw [← e1]
            simp (disch := omega) only [f_X11_ask_45, f_X11_ask, b_X11_ask_104, b_X11_ask_87, b_X11_ask_45, b_X11_ask_0, unlike_c, ht, xg, hl, neg_nI, lit_nI, nI_add, pk_mul, pk_sub, nI_clamp, inB_nI, gd_true, bnd_def, nI_leI, nI_ltI, nI_eq, nI_mI, mI_nI, nle_T, nle_F, nlt_T, nlt_F, neq_T, neq_F, ↓reduceIte, Nat.add_zero, Nat.zero_add, Nat.mul_zero, Nat.reduceAdd, Nat.reduceMul, Nat.reduceSub, ob1_e, ob2_e, ob3_e, ob4_e, ob6_e]
          · rw [if_neg (fun z => z.elim (fun y => by rw [nI_mI ⟨by omega, by omega, by omega⟩] at y; exact y) (fun y => y hl))] at y1
            rw [← e2, ← y1]
            simp (disch := omega) only [f_X12_ask_39, b_X12_ask_39, neg_nI, lit_nI, nI_add, pk_mul, pk_sub, nI_clamp, inB_nI, gd_true, bnd_def, nI_leI, nI_ltI, nI_eq, nI_mI, mI_nI, nle_T, nle_F, nlt_T, nlt_F, neq_T, neq_F, ↓reduceIte, Nat.add_zero, Nat.zero_add, Nat.mul_zero, Nat.reduceAdd, Nat.reduceMul, Nat.reduceSub, ob1_e, ob2_e, ob3_e, ob4_e, ob6_e]
        · obtain ⟨r, lt', st', lt2', st2', e1, e2⟩ := ih (k + 1) n n' lt1 st1 lt3 st3 (nI k) X (nI k) X (by omega) (by omega) (by omega) (Or.inr ⟨k, by omega, rfl, rfl, rfl⟩)
          refine ⟨r, lt', st', lt2', st2', ?_, ?_⟩
          · rw [← e1]
            simp (disch := omega) only [f_X11_ask_45, f_X11_ask, b_X11_ask_104, b_X11_ask_87, b_X11_ask_45, b_X11_ask_0, unlike_c, ht, xg, hl, neg_nI, lit_nI, nI_add, pk_mul, pk_sub, nI_clamp, inB_nI, gd_true, bnd_def, nI_leI, nI_ltI, nI_eq, nI_mI, mI_nI, nle_T, nle_F, nlt_T, nlt_F, neq_T, neq_F, ↓reduceIte, Nat.add_zero, Nat.zero_add, Nat.mul_zero, Nat.reduceAdd, Nat.reduceMul, Nat.reduceSub, ob1_e, ob2_e, ob3_e, ob4_e, ob6_e]
          · rw [if_pos (Or.inr hl)] at y1
            rw [← e2, ← y1]
            simp (disch := omega) only [f_X12_ask_39, b_X12_ask_39, neg_nI, lit_nI, nI_add, pk_mul, pk_sub, nI_clamp, inB_nI, gd_true, bnd_def, nI_leI, nI_ltI, nI_eq, nI_mI, mI_nI, nle_T, nle_F, nlt_T, nlt_F, neq_T, neq_F, ↓reduceIte, Nat.add_zero, Nat.zero_add, Nat.mul_zero, Nat.reduceAdd, Nat.reduceMul, Nat.reduceSub, ob1_e, ob2_e, ob3_e, ob4_e, ob6_e]
theorem s_ask (hX : RiseX R lh ll l0 l1 l2 l3) (hY : RiseY R mh mc mv mk mt ms mu) (hG : G ≤ 6) (hh : ∀ g, g < G → mg (4 * g) = th g) (hf : ∀ g, g < G → mg (4 * g + 1) = tf g) (hs : ∀ g, g < G → mg (4 * g + 2) = ts g) (ha : ∀ g, g < G → mg (4 * g + 3) = ta g) (hpp : mr 0 = tp) (hS : RS G q s1 s2 s3 s4 n1 n2 n3 n4) (lt st lt2 st2 : Nat → Int32) (x v : Int32) : ∃ r lt' st' lt2' st2', f_X11_ask (nI G) tp th tf ts ta lh ll l0 l1 l2 l3 (nI q) s1 s2 s3 s4 lt st x v = some (r, lt', st') ∧ f_X12_ask (nI G) mh (nI q) mc mv mk mt ms mu mr mg n1 n2 n3 n4 lt2 st2 x v = some (r, lt2', st2') := by
  rcases glove_or x hG with ⟨g, hg, rfl⟩ | ⟨q1, q2⟩
  · rcases noRise_or v with ⟨r1, r2⟩ | ⟨r1, r2⟩
    · obtain ⟨lt1, st1, f1⟩ := fitting_l (R := R) (tp := tp) (tf := tf) (ts := ts) (ta := ta) hX hG hS hg 10 0 fu lt st (nI 0) (by omega) (by have := fu_le; omega)
      have ff : f_X8_fitting tp tf ts ta lh ll l0 l1 l2 l3 (nI q) s1 s2 s3 s4 lt st (nI g) = some (bbF (pF R tp tf ts ta s1 s2 s3 s4 q g) 10 0 (nI 0), lt1, st1) := f1
      obtain ⟨lt3, st3, f2⟩ := fitsY_l (R := R) (tp := tp) (tf := tf) (ts := ts) (ta := ta) hY hG hf hs ha hpp hS hg (i := nI 0) 10 0 fu lt2 st2 (nI 0) (by omega) (by have := fu_le; omega)
      have fy : f_X12_fits (nI G) mh (nI q) mc mv mk mt ms mu mr mg n1 n2 n3 n4 lt2 st2 (nI g) (nI 0) = some (ftF (pF R tp tf ts ta s1 s2 s3 s4 q g) (nI 0) 10 0 (nI 0), lt3, st3) := by
        have e0 : mI 1 ≤ nI 0 := by decide
        rw [← f2]
        simp (disch := omega) only [f_X12_fits, b_X12_fits_48, b_X12_fits_20, b_X12_fits_0, isGlove_y, e0, neg_nI, lit_nI, nI_add, pk_mul, pk_sub, nI_clamp, inB_nI, gd_true, bnd_def, nI_leI, nI_ltI, nI_eq, nI_mI, mI_nI, nle_T, nle_F, nlt_T, nlt_F, neq_T, neq_F, ↓reduceIte, Nat.add_zero, Nat.zero_add, Nat.mul_zero, Nat.reduceAdd, Nat.reduceMul, Nat.reduceSub, ob1_e, ob2_e, ob3_e, ob4_e, ob6_e]
      have hb : ∀ i, i < 10 → bt (bbF (pF R tp tf ts ta s1 s2 s3 s4 q g) 10 0 (nI 0)) i = pF R tp tf ts ta s1 s2 s3 s4 q g i := by
        intro i hi
        rw [b_bbF (by omega) 10 0 _ (by omega), b_z i (by omega), decide_eq_true (by omega)]
        simp
      by_cases hno : ∀ i, 0 ≤ i → i < 0 + 10 → pF R tp tf ts ta s1 s2 s3 s4 q g i = false
      · have z1 : bbF (pF R tp tf ts ta s1 s2 s3 s4 q g) 10 0 (nI 0) = nI 0 := bbF_none 10 0 _ hno
        have z2 : ftF (pF R tp tf ts ta s1 s2 s3 s4 q g) (nI 0) 10 0 (nI 0) = mI 1 := (ftF_none 10 0 (by omega)).mpr hno
        refine ⟨mI 1, lt1, st1, lt3, st3, ?_, ?_⟩
        · simp (disch := omega) only [f_X11_ask, b_X11_ask_104, b_X11_ask_87, b_X11_ask_45, b_X11_ask_0, hasGlove_y, r1, ff, z1, neg_nI, lit_nI, nI_add, pk_mul, pk_sub, nI_clamp, inB_nI, gd_true, bnd_def, nI_leI, nI_ltI, nI_eq, nI_mI, mI_nI, nle_T, nle_F, nlt_T, nlt_F, neq_T, neq_F, ↓reduceIte, Nat.add_zero, Nat.zero_add, Nat.mul_zero, Nat.reduceAdd, Nat.reduceMul, Nat.reduceSub, ob1_e, ob2_e, ob3_e, ob4_e, ob6_e]
        · simp (disch := omega) only [f_X12_ask, b_X12_ask_105, b_X12_ask_83, b_X12_ask_149, b_X12_ask_139, b_X12_ask_54, b_X12_ask_39, b_X12_ask_0, isGlove_y, r2, fy, z2, neg_nI, lit_nI, nI_add, pk_mul, pk_sub, nI_clamp, inB_nI, gd_true, bnd_def, nI_leI, nI_ltI, nI_eq, nI_mI, mI_nI, nle_T, nle_F, nlt_T, nlt_F, neq_T, neq_F, ↓reduceIte, Nat.add_zero, Nat.zero_add, Nat.mul_zero, Nat.reduceAdd, Nat.reduceMul, Nat.reduceSub, ob1_e, ob2_e, ob3_e, ob4_e, ob6_e]
      · have z1 : ¬ bbF (pF R tp tf ts ta s1 s2 s3 s4 q g) 10 0 (nI 0) = nI 0 := by
          intro z
          apply hno
          intro i _ hi
          rw [← hb i (by omega), z]
          exact b_z i (by omega)
        have z2 : ¬ ftF (pF R tp tf ts ta s1 s2 s3 s4 q g) (nI 0) 10 0 (nI 0) = mI 1 := fun z => hno ((ftF_none 10 0 (by omega)).mp z)
        obtain ⟨r, lt', st', lt2', st2', e1, e2⟩ := ask_l (R := R) (tp := tp) (tf := tf) (ts := ts) (ta := ta) hX hY hG hh hf hs ha hpp hS hg (v := v) hb G 0 fu fu lt1 st1 lt3 st3 (mI 1) (nI 11) (mI 1) (nI 0) (by omega) (by have := fu_le; omega) (by have := fu_le; omega) (Or.inl ⟨rfl, rfl, rfl⟩)
        refine ⟨r, lt', st', lt2', st2', ?_, ?_⟩
        · rw [← e1]
          simp (disch := omega) only [f_X11_ask, b_X11_ask_104, b_X11_ask_87, b_X11_ask_45, b_X11_ask_0, hasGlove_y, r1, ff, z1, neg_nI, lit_nI, nI_add, pk_mul, pk_sub, nI_clamp, inB_nI, gd_true, bnd_def, nI_leI, nI_ltI, nI_eq, nI_mI, mI_nI, nle_T, nle_F, nlt_T, nlt_F, neq_T, neq_F, ↓reduceIte, Nat.add_zero, Nat.zero_add, Nat.mul_zero, Nat.reduceAdd, Nat.reduceMul, Nat.reduceSub, ob1_e, ob2_e, ob3_e, ob4_e, ob6_e]
        · rw [← e2]
          simp (disch := omega) only [f_X12_ask, b_X12_ask_105, b_X12_ask_83, b_X12_ask_149, b_X12_ask_139, b_X12_ask_54, b_X12_ask_39, b_X12_ask_0, isGlove_y, r2, fy, z2, neg_nI, lit_nI, nI_add, pk_mul, pk_sub, nI_clamp, inB_nI, gd_true, bnd_def, nI_leI, nI_ltI, nI_eq, nI_mI, mI_nI, nle_T, nle_F, nlt_T, nlt_F, neq_T, neq_F, ↓reduceIte, Nat.add_zero, Nat.zero_add, Nat.mul_zero, Nat.reduceAdd, Nat.reduceMul, Nat.reduceSub, ob1_e, ob2_e, ob3_e, ob4_e, ob6_e]
    · refine ⟨mI 1, lt, st, lt2, st2, ?_, ?_⟩
      · simp (disch := omega) only [f_X11_ask, b_X11_ask_104, b_X11_ask_87, b_X11_ask_45, b_X11_ask_0, hasGlove_y, r1, neg_nI, lit_nI, nI_add, pk_mul, pk_sub, nI_clamp, inB_nI, gd_true, bnd_def, nI_leI, nI_ltI, nI_eq, nI_mI, mI_nI, nle_T, nle_F, nlt_T, nlt_F, neq_T, neq_F, ↓reduceIte, Nat.add_zero, Nat.zero_add, Nat.mul_zero, Nat.reduceAdd, Nat.reduceMul, Nat.reduceSub, ob1_e, ob2_e, ob3_e, ob4_e, ob6_e]
      · simp (disch := omega) only [f_X12_ask, b_X12_ask_105, b_X12_ask_83, b_X12_ask_149, b_X12_ask_139, b_X12_ask_54, b_X12_ask_39, b_X12_ask_0, isGlove_y, r2, neg_nI, lit_nI, nI_add, pk_mul, pk_sub, nI_clamp, inB_nI, gd_true, bnd_def, nI_leI, nI_ltI, nI_eq, nI_mI, mI_nI, nle_T, nle_F, nlt_T, nlt_F, neq_T, neq_F, ↓reduceIte, Nat.add_zero, Nat.zero_add, Nat.mul_zero, Nat.reduceAdd, Nat.reduceMul, Nat.reduceSub, ob1_e, ob2_e, ob3_e, ob4_e, ob6_e]
  · refine ⟨mI 1, lt, st, lt2, st2, ?_, ?_⟩
    · simp (disch := omega) only [f_X11_ask, b_X11_ask_104, b_X11_ask_87, b_X11_ask_45, b_X11_ask_0, q1, neg_nI, lit_nI, nI_add, pk_mul, pk_sub, nI_clamp, inB_nI, gd_true, bnd_def, nI_leI, nI_ltI, nI_eq, nI_mI, mI_nI, nle_T, nle_F, nlt_T, nlt_F, neq_T, neq_F, ↓reduceIte, Nat.add_zero, Nat.zero_add, Nat.mul_zero, Nat.reduceAdd, Nat.reduceMul, Nat.reduceSub, ob1_e, ob2_e, ob3_e, ob4_e, ob6_e]
    · simp (disch := omega) only [f_X12_ask, b_X12_ask_105, b_X12_ask_83, b_X12_ask_149, b_X12_ask_139, b_X12_ask_54, b_X12_ask_39, b_X12_ask_0, q2, neg_nI, lit_nI, nI_add, pk_mul, pk_sub, nI_clamp, inB_nI, gd_true, bnd_def, nI_leI, nI_ltI, nI_eq, nI_mI, mI_nI, nle_T, nle_F, nlt_T, nlt_F, neq_T, neq_F, ↓reduceIte, Nat.add_zero, Nat.zero_add, Nat.mul_zero, Nat.reduceAdd, Nat.reduceMul, Nat.reduceSub, ob1_e, ob2_e, ob3_e, ob4_e, ob6_e]
end SK
