/-! rises; and: later, soonest, odds answer (the class's days stay at 999, the model's don't: no claim that they answer alike) -/
section TT
variable {R : R6} {lh : Int32} {ll l0 l1 l2 l3 : Nat → Int32} {mh : Int32} {mc mv mk mt ms mu : Nat → Int32}
variable {G M : Nat} {th ta tn mg mm c m : Nat → Int32}
theorem s_rises (hX : RiseX R lh ll l0 l1 l2 l3) (hY : RiseY R mh mc mv mk mt ms mu) (hG : G ≤ 6) (hh : ∀ g, g < G → mg (4 * g) = th g) (ha : ∀ g, g < G → mg (4 * g + 3) = ta g) (hN : RN G M c m) (lt st lt2 st2 : Nat → Int32) (x y : Int32) : ∃ r lt' st' lt2' st2', f_X11_rises (nI G) th ta lh ll l0 l1 l2 l3 c lt st x y = some (r, lt', st') ∧ f_X12_rises (nI G) mh mc mv mk mt ms mu mg m lt2 st2 x y = some (r, lt2', st2') := by
  rcases two_or x y (th := th) (mg := mg) hG hh with ⟨g, o, hg, ho, rfl, rfl, ht⟩ | ⟨q1, q2⟩
  · have g1 := hh g hg
    have g2 := hh o ho
    have hp := pl_lt (a := g) (b := o) ⟨by omega, by omega⟩
    obtain ⟨lt', st', e1⟩ := riseOf_c hX (ta := ta) (c := c) (lt := lt) (st := st) (g := g) (o := o) ⟨by omega, by omega⟩
    obtain ⟨lt2', st2', e2⟩ := riseOfY_c hY (mg := mg) (m := m) (lt := lt2) (st := st2) (g := g) (o := o) ⟨by omega, by omega⟩
    rw [rv_cong hN ha ⟨hg, ho, hG⟩, hN (pl g o) (by omega), hN 68 (by omega)] at e2
    refine ⟨rv R ta c g o (c (pl g o)) (c 68), lt', st', lt2', st2', ?_, ?_⟩
    · simp (disch := omega) only [f_X11_rises, b_X11_rises_0, unlike_c, ht, e1, neg_nI, lit_nI, nI_add, pk_mul, pk_sub, nI_clamp, inB_nI, gd_true, bnd_def, nI_leI, nI_ltI, nI_eq, nI_mI, mI_nI, nle_T, nle_F, nlt_T, nlt_F, neq_T, neq_F, ↓reduceIte, Nat.add_zero, Nat.zero_add, Nat.mul_zero, Nat.reduceAdd, Nat.reduceMul, Nat.reduceSub, ob1_e, ob2_e, ob3_e, ob4_e, ob6_e]
    · simp (disch := omega) only [f_X12_rises, b_X12_rises_0, areTwo_c, g1, g2, ht, e2, neg_nI, lit_nI, nI_add, pk_mul, pk_sub, nI_clamp, inB_nI, gd_true, bnd_def, nI_leI, nI_ltI, nI_eq, nI_mI, mI_nI, nle_T, nle_F, nlt_T, nlt_F, neq_T, neq_F, ↓reduceIte, Nat.add_zero, Nat.zero_add, Nat.mul_zero, Nat.reduceAdd, Nat.reduceMul, Nat.reduceSub, ob1_e, ob2_e, ob3_e, ob4_e, ob6_e]
  · refine ⟨mI 1000000, lt, st, lt2, st2, ?_, ?_⟩
    · simp (disch := omega) only [f_X11_rises, b_X11_rises_0, q1, neg_nI, lit_nI, nI_add, pk_mul, pk_sub, nI_clamp, inB_nI, gd_true, bnd_def, nI_leI, nI_ltI, nI_eq, nI_mI, mI_nI, nle_T, nle_F, nlt_T, nlt_F, neq_T, neq_F, ↓reduceIte, Nat.add_zero, Nat.zero_add, Nat.mul_zero, Nat.reduceAdd, Nat.reduceMul, Nat.reduceSub, ob1_e, ob2_e, ob3_e, ob4_e, ob6_e]
    · simp (disch := omega) only [f_X12_rises, b_X12_rises_0, q2, neg_nI, lit_nI, nI_add, pk_mul, pk_sub, nI_clamp, inB_nI, gd_true, bnd_def, nI_leI, nI_ltI, nI_eq, nI_mI, mI_nI, nle_T, nle_F, nlt_T, nlt_F, neq_T, neq_F, ↓reduceIte, Nat.add_zero, Nat.zero_add, Nat.mul_zero, Nat.reduceAdd, Nat.reduceMul, Nat.reduceSub, ob1_e, ob2_e, ob3_e, ob4_e, ob6_e]
theorem warmX_e (hX : RiseX R lh ll l0 l1 l2 l3) {g o : Nat} {w k : Int32} (hg : g < 6) (ho : o < 6) (lt st : Nat → Int32) : ∃ z lt' st', f_X9_warmer ta lh ll l0 l1 l2 l3 c lt st (nI g) (nI o) w k = some (z, lt', st') := by
  obtain ⟨lt', st', e⟩ := warmer_c hX (ta := ta) (c := c) (lt := lt) (st := st) (g := g) (o := o) (w := w) (k := k) ⟨hg, ho⟩
  exact ⟨_, lt', st', e⟩
theorem laterX_l (hX : RiseX R lh ll l0 l1 l2 l3) {g o N : Nat} (hg : g < 6) (ho : o < 6) (hN6 : N ≤ 60) : ∀ (j k n : Nat) (lt st : Nat → Int32) (w : Int32), k + j = N → j < n → ∃ r lt' st', f_X11_later_38 (nI G) th ta lh ll l0 l1 l2 l3 c n lt st (nI g) (nI o) (nI N) w (nI k) = some (r, lt', st') := by
  intro j
  induction j with
  | zero =>
    intro k n lt st w hk h1
    obtain ⟨n, rfl⟩ : ∃ q, n = q + 1 := ⟨n - 1, by omega⟩
    exact ⟨w, lt, st, by simp (disch := omega) only [f_X11_later_38, b_X11_later_38, neg_nI, lit_nI, nI_add, pk_mul, pk_sub, nI_clamp, inB_nI, gd_true, bnd_def, nI_leI, nI_ltI, nI_eq, nI_mI, mI_nI, nle_T, nle_F, nlt_T, nlt_F, neq_T, neq_F, ↓reduceIte, Nat.add_zero, Nat.zero_add, Nat.mul_zero, Nat.reduceAdd, Nat.reduceMul, Nat.reduceSub, ob1_e, ob2_e, ob3_e, ob4_e, ob6_e]⟩
  | succ j ih =>
    intro k n lt st w hk h1
    obtain ⟨n, rfl⟩ : ∃ q, n = q + 1 := ⟨n - 1, by omega⟩
    obtain ⟨z, lt1, st1, e1⟩ := warmX_e hX (ta := ta) (c := c) (g := g) (o := o) (w := w) (k := nI k) hg ho lt st
    obtain ⟨r, lt', st', e2⟩ := ih (k + 1) n lt1 st1 z (by omega) (by omega)
    refine ⟨r, lt', st', ?_⟩
    rw [← e2]
    simp (disch := omega) only [f_X11_later_38, b_X11_later_38, e1, neg_nI, lit_nI, nI_add, pk_mul, pk_sub, nI_clamp, inB_nI, gd_true, bnd_def, nI_leI, nI_ltI, nI_eq, nI_mI, mI_nI, nle_T, nle_F, nlt_T, nlt_F, neq_T, neq_F, ↓reduceIte, Nat.add_zero, Nat.zero_add, Nat.mul_zero, Nat.reduceAdd, Nat.reduceMul, Nat.reduceSub, ob1_e, ob2_e, ob3_e, ob4_e, ob6_e]
theorem laterY_l (hY : RiseY R mh mc mv mk mt ms mu) {g o N : Nat} (hg : g < 6) (ho : o < 6) (hN6 : N ≤ 60) : ∀ (j k n : Nat) (lt st : Nat → Int32) (w : Int32), k + j = N → j < n → ∃ r lt' st', f_X12_later_36 (nI G) mh mc mv mk mt ms mu mg m n lt st (nI g) (nI o) (nI N) w (nI k) = some (r, lt', st') := by
  intro j
  induction j with
  | zero =>
    intro k n lt st w hk h1
    obtain ⟨n, rfl⟩ : ∃ q, n = q + 1 := ⟨n - 1, by omega⟩
    exact ⟨w, lt, st, by simp (disch := omega) only [f_X12_later_36, b_X12_later_36, neg_nI, lit_nI, nI_add, pk_mul, pk_sub, nI_clamp, inB_nI, gd_true, bnd_def, nI_leI, nI_ltI, nI_eq, nI_mI, mI_nI, nle_T, nle_F, nlt_T, nlt_F, neq_T, neq_F, ↓reduceIte, Nat.add_zero, Nat.zero_add, Nat.mul_zero, Nat.reduceAdd, Nat.reduceMul, Nat.reduceSub, ob1_e, ob2_e, ob3_e, ob4_e, ob6_e]⟩
  | succ j ih =>
    intro k n lt st w hk h1
    obtain ⟨n, rfl⟩ : ∃ q, n = q + 1 := ⟨n - 1, by omega⟩
    obtain ⟨lt1, st1, e1⟩ := riseFrom_c hY (mg := mg) (m := m) (lt := lt) (st := st) (g := g) (o := o) (w := w) (d := m 68 + nI k) ⟨hg, ho⟩
    generalize hz : hd (w + rv R (tA mg) m g o w (m 68 + nI k)) = z
    obtain ⟨r, lt', st', e2⟩ := ih (k + 1) n lt1 st1 z (by omega) (by omega)
    refine ⟨r, lt', st', ?_⟩
    rw [← e2]
    simp (disch := omega) only [f_X12_later_36, b_X12_later_36, e1, held_c, hz, neg_nI, lit_nI, nI_add, pk_mul, pk_sub, nI_clamp, inB_nI, gd_true, bnd_def, nI_leI, nI_ltI, nI_eq, nI_mI, mI_nI, nle_T, nle_F, nlt_T, nlt_F, neq_T, neq_F, ↓reduceIte, Nat.add_zero, Nat.zero_add, Nat.mul_zero, Nat.reduceAdd, Nat.reduceMul, Nat.reduceSub, ob1_e, ob2_e, ob3_e, ob4_e, ob6_e]
theorem s_later (hX : RiseX R lh ll l0 l1 l2 l3) (hY : RiseY R mh mc mv mk mt ms mu) (hG : G ≤ 6) (hh : ∀ g, g < G → mg (4 * g) = th g) (lt st lt2 st2 : Nat → Int32) (x y v : Int32) : ∃ r lt' st' r2 lt2' st2', f_X11_later (nI G) th ta lh ll l0 l1 l2 l3 c lt st x y v = some (r, lt', st') ∧ f_X12_later (nI G) mh mc mv mk mt ms mu mg m lt2 st2 x y v = some (r2, lt2', st2') := by
  rcases two_or x y (th := th) (mg := mg) hG hh with ⟨g, o, hg, ho, rfl, rfl, ht⟩ | ⟨q1, q2⟩
  · have g1 := hh g hg
    have g2 := hh o ho
    rcases rng v 60 (by omega) with ⟨k, hk, rfl⟩ | k0 | ⟨k0, k1, k2⟩
    · obtain ⟨r, lt', st', e1⟩ := laterX_l (G := G) (th := th) (ta := ta) (c := c) hX (g := g) (o := o) (N := k) (by omega) (by omega) hk k 0 fu lt st (c (pl g o)) (by omega) (by have := fu_le; omega)
      obtain ⟨r2, lt2', st2', e2⟩ := laterY_l (G := G) (mg := mg) (m := m) hY (g := g) (o := o) (N := k) (by omega) (by omega) hk k 0 fu lt2 st2 (m (pl g o)) (by omega) (by have := fu_le; omega)
      refine ⟨r, lt', st', r2, lt2', st2', ?_, ?_⟩
      · rw [← e1]
        simp (disch := omega) only [f_X11_later, b_X11_later_38, b_X11_later_0, unlike_c, ht, warmthOf_c, neg_nI, lit_nI, nI_add, pk_mul, pk_sub, nI_clamp, inB_nI, gd_true, bnd_def, nI_leI, nI_ltI, nI_eq, nI_mI, mI_nI, nle_T, nle_F, nlt_T, nlt_F, neq_T, neq_F, ↓reduceIte, Nat.add_zero, Nat.zero_add, Nat.mul_zero, Nat.reduceAdd, Nat.reduceMul, Nat.reduceSub, ob1_e, ob2_e, ob3_e, ob4_e, ob6_e]
      · rw [← e2]
        simp (disch := omega) only [f_X12_later, b_X12_later_36, b_X12_later_0, areTwo_c, g1, g2, ht, in_c, pairAt_c, inB_pl, pl_clamp, neg_nI, lit_nI, nI_add, pk_mul, pk_sub, nI_clamp, inB_nI, gd_true, bnd_def, nI_leI, nI_ltI, nI_eq, nI_mI, mI_nI, nle_T, nle_F, nlt_T, nlt_F, neq_T, neq_F, ↓reduceIte, Nat.add_zero, Nat.zero_add, Nat.mul_zero, Nat.reduceAdd, Nat.reduceMul, Nat.reduceSub, ob1_e, ob2_e, ob3_e, ob4_e, ob6_e]
    · refine ⟨mI 1, lt, st, mI 1, lt2, st2, ?_, ?_⟩
      · simp (disch := omega) only [f_X11_later, b_X11_later_38, b_X11_later_0, unlike_c, ht, k0, neg_nI, lit_nI, nI_add, pk_mul, pk_sub, nI_clamp, inB_nI, gd_true, bnd_def, nI_leI, nI_ltI, nI_eq, nI_mI, mI_nI, nle_T, nle_F, nlt_T, nlt_F, neq_T, neq_F, ↓reduceIte, Nat.add_zero, Nat.zero_add, Nat.mul_zero, Nat.reduceAdd, Nat.reduceMul, Nat.reduceSub, ob1_e, ob2_e, ob3_e, ob4_e, ob6_e]
      · simp (disch := omega) only [f_X12_later, b_X12_later_36, b_X12_later_0, areTwo_c, g1, g2, ht, in_lo (hi := nI 60) k0, neg_nI, lit_nI, nI_add, pk_mul, pk_sub, nI_clamp, inB_nI, gd_true, bnd_def, nI_leI, nI_ltI, nI_eq, nI_mI, mI_nI, nle_T, nle_F, nlt_T, nlt_F, neq_T, neq_F, ↓reduceIte, Nat.add_zero, Nat.zero_add, Nat.mul_zero, Nat.reduceAdd, Nat.reduceMul, Nat.reduceSub, ob1_e, ob2_e, ob3_e, ob4_e, ob6_e]
    · refine ⟨mI 1, lt, st, mI 1, lt2, st2, ?_, ?_⟩
      · simp (disch := omega) only [f_X11_later, b_X11_later_38, b_X11_later_0, unlike_c, ht, k0, k2, neg_nI, lit_nI, nI_add, pk_mul, pk_sub, nI_clamp, inB_nI, gd_true, bnd_def, nI_leI, nI_ltI, nI_eq, nI_mI, mI_nI, nle_T, nle_F, nlt_T, nlt_F, neq_T, neq_F, ↓reduceIte, Nat.add_zero, Nat.zero_add, Nat.mul_zero, Nat.reduceAdd, Nat.reduceMul, Nat.reduceSub, ob1_e, ob2_e, ob3_e, ob4_e, ob6_e]
      · simp (disch := omega) only [f_X12_later, b_X12_later_36, b_X12_later_0, areTwo_c, g1, g2, ht, in_hi (lo := nI 0) k1, neg_nI, lit_nI, nI_add, pk_mul, pk_sub, nI_clamp, inB_nI, gd_true, bnd_def, nI_leI, nI_ltI, nI_eq, nI_mI, mI_nI, nle_T, nle_F, nlt_T, nlt_F, neq_T, neq_F, ↓reduceIte, Nat.add_zero, Nat.zero_add, Nat.mul_zero, Nat.reduceAdd, Nat.reduceMul, Nat.reduceSub, ob1_e, ob2_e, ob3_e, ob4_e, ob6_e]
  · refine ⟨mI 1, lt, st, mI 1, lt2, st2, ?_, ?_⟩
    · simp (disch := omega) only [f_X11_later, b_X11_later_38, b_X11_later_0, q1, neg_nI, lit_nI, nI_add, pk_mul, pk_sub, nI_clamp, inB_nI, gd_true, bnd_def, nI_leI, nI_ltI, nI_eq, nI_mI, mI_nI, nle_T, nle_F, nlt_T, nlt_F, neq_T, neq_F, ↓reduceIte, Nat.add_zero, Nat.zero_add, Nat.mul_zero, Nat.reduceAdd, Nat.reduceMul, Nat.reduceSub, ob1_e, ob2_e, ob3_e, ob4_e, ob6_e]
    · simp (disch := omega) only [f_X12_later, b_X12_later_36, b_X12_later_0, q2, neg_nI, lit_nI, nI_add, pk_mul, pk_sub, nI_clamp, inB_nI, gd_true, bnd_def, nI_leI, nI_ltI, nI_eq, nI_mI, mI_nI, nle_T, nle_F, nlt_T, nlt_F, neq_T, neq_F, ↓reduceIte, Nat.add_zero, Nat.zero_add, Nat.mul_zero, Nat.reduceAdd, Nat.reduceMul, Nat.reduceSub, ob1_e, ob2_e, ob3_e, ob4_e, ob6_e]
theorem untilX_l (hX : RiseX R lh ll l0 l1 l2 l3) {g o : Nat} (hg : g < 6) (ho : o < 6) {need : Int32} : ∀ (j k n : Nat) (lt st : Nat → Int32) (w : Int32), k + j = 61 → j < n → ∃ r lt' st', f_X11_daysUntil_14 ta lh ll l0 l1 l2 l3 c n lt st (nI g) (nI o) need w (nI k) = some (r, lt', st') := by
  intro j
  induction j with
  | zero =>
    intro k n lt st w hk h1
    obtain ⟨n, rfl⟩ : ∃ q, n = q + 1 := ⟨n - 1, by omega⟩
    exact ⟨nI 61, lt, st, by simp (disch := omega) only [f_X11_daysUntil_14, b_X11_daysUntil_14, neg_nI, lit_nI, nI_add, pk_mul, pk_sub, nI_clamp, inB_nI, gd_true, bnd_def, nI_leI, nI_ltI, nI_eq, nI_mI, mI_nI, nle_T, nle_F, nlt_T, nlt_F, neq_T, neq_F, ↓reduceIte, Nat.add_zero, Nat.zero_add, Nat.mul_zero, Nat.reduceAdd, Nat.reduceMul, Nat.reduceSub, ob1_e, ob2_e, ob3_e, ob4_e, ob6_e]⟩
  | succ j ih =>
    intro k n lt st w hk h1
    obtain ⟨n, rfl⟩ : ∃ q, n = q + 1 := ⟨n - 1, by omega⟩
    by_cases hw : w < need
    · obtain ⟨z, lt1, st1, e1⟩ := warmX_e hX (ta := ta) (c := c) (g := g) (o := o) (w := w) (k := nI k) hg ho lt st
      obtain ⟨r, lt', st', e2⟩ := ih (k + 1) n lt1 st1 z (by omega) (by omega)
      refine ⟨r, lt', st', ?_⟩
      rw [← e2]
      simp (disch := omega) only [f_X11_daysUntil_14, b_X11_daysUntil_14, hw, e1, neg_nI, lit_nI, nI_add, pk_mul, pk_sub, nI_clamp, inB_nI, gd_true, bnd_def, nI_leI, nI_ltI, nI_eq, nI_mI, mI_nI, nle_T, nle_F, nlt_T, nlt_F, neq_T, neq_F, ↓reduceIte, Nat.add_zero, Nat.zero_add, Nat.mul_zero, Nat.reduceAdd, Nat.reduceMul, Nat.reduceSub, ob1_e, ob2_e, ob3_e, ob4_e, ob6_e]
    · exact ⟨nI k, lt, st, by simp (disch := omega) only [f_X11_daysUntil_14, b_X11_daysUntil_14, hw, neg_nI, lit_nI, nI_add, pk_mul, pk_sub, nI_clamp, inB_nI, gd_true, bnd_def, nI_leI, nI_ltI, nI_eq, nI_mI, mI_nI, nle_T, nle_F, nlt_T, nlt_F, neq_T, neq_F, ↓reduceIte, Nat.add_zero, Nat.zero_add, Nat.mul_zero, Nat.reduceAdd, Nat.reduceMul, Nat.reduceSub, ob1_e, ob2_e, ob3_e, ob4_e, ob6_e]⟩
theorem untilX_c (hX : RiseX R lh ll l0 l1 l2 l3) {g o : Nat} (hg : g < 6) (ho : o < 6) {need : Int32} (lt st : Nat → Int32) : ∃ r lt' st', f_X11_daysUntil ta lh ll l0 l1 l2 l3 c lt st (nI g) (nI o) need = some (r, lt', st') := by
  obtain ⟨r, lt', st', e⟩ := untilX_l (ta := ta) (c := c) hX hg ho (need := need) 61 0 fu lt st (c (pl g o)) (by omega) (by have := fu_le; omega)
  refine ⟨r, lt', st', ?_⟩
  rw [← e]
  simp (disch := omega) only [f_X11_daysUntil, b_X11_daysUntil_0, warmthOf_c, neg_nI, lit_nI, nI_add, pk_mul, pk_sub, nI_clamp, inB_nI, gd_true, bnd_def, nI_leI, nI_ltI, nI_eq, nI_mI, mI_nI, nle_T, nle_F, nlt_T, nlt_F, neq_T, neq_F, ↓reduceIte, Nat.add_zero, Nat.zero_add, Nat.mul_zero, Nat.reduceAdd, Nat.reduceMul, Nat.reduceSub, ob1_e, ob2_e, ob3_e, ob4_e, ob6_e]
theorem untilY_l (hY : RiseY R mh mc mv mk mt ms mu) {g o : Nat} (hg : g < 6) (ho : o < 6) {need : Int32} : ∀ (j k n : Nat) (lt st : Nat → Int32) (w : Int32), k + j = 60 → j < n → ∃ r lt' st', f_X12_daysTo_15 mh mc mv mk mt ms mu mg m n lt st (nI g) (nI o) need w (nI k) = some (r, lt', st') := by
  intro j
  induction j with
  | zero =>
    intro k n lt st w hk h1
    obtain ⟨n, rfl⟩ : ∃ q, n = q + 1 := ⟨n - 1, by omega⟩
    by_cases hw : w < need
    · have hw2 : ¬ need ≤ w := by rw [le32]; rw [lt32] at hw; omega
      exact ⟨mI 1, lt, st, by simp (disch := omega) only [f_X12_daysTo_15, f_X12_daysTo, b_X12_daysTo_60, b_X12_daysTo_15, b_X12_daysTo_0, hw, hw2, neg_nI, lit_nI, nI_add, pk_mul, pk_sub, nI_clamp, inB_nI, gd_true, bnd_def, nI_leI, nI_ltI, nI_eq, nI_mI, mI_nI, nle_T, nle_F, nlt_T, nlt_F, neq_T, neq_F, ↓reduceIte, Nat.add_zero, Nat.zero_add, Nat.mul_zero, Nat.reduceAdd, Nat.reduceMul, Nat.reduceSub, ob1_e, ob2_e, ob3_e, ob4_e, ob6_e]⟩
    · have hw2 : need ≤ w := by rw [le32]; rw [lt32] at hw; omega
      exact ⟨nI k, lt, st, by simp (disch := omega) only [f_X12_daysTo_15, f_X12_daysTo, b_X12_daysTo_60, b_X12_daysTo_15, b_X12_daysTo_0, hw, hw2, neg_nI, lit_nI, nI_add, pk_mul, pk_sub, nI_clamp, inB_nI, gd_true, bnd_def, nI_leI, nI_ltI, nI_eq, nI_mI, mI_nI, nle_T, nle_F, nlt_T, nlt_F, neq_T, neq_F, ↓reduceIte, Nat.add_zero, Nat.zero_add, Nat.mul_zero, Nat.reduceAdd, Nat.reduceMul, Nat.reduceSub, ob1_e, ob2_e, ob3_e, ob4_e, ob6_e]⟩
  | succ j ih =>
    intro k n lt st w hk h1
    obtain ⟨n, rfl⟩ : ∃ q, n = q + 1 := ⟨n - 1, by omega⟩
    by_cases hw : w < need
    · obtain ⟨lt1, st1, e1⟩ := riseFrom_c hY (mg := mg) (m := m) (lt := lt) (st := st) (g := g) (o := o) (w := w) (d := m 68 + nI k) ⟨hg, ho⟩
      generalize hz : hd (w + rv R (tA mg) m g o w (m 68 + nI k)) = z
      obtain ⟨r, lt', st', e2⟩ := ih (k + 1) n lt1 st1 z (by omega) (by omega)
      refine ⟨r, lt', st', ?_⟩
      have hw2 : ¬ need ≤ w := by rw [le32]; rw [lt32] at hw; omega
      rw [← e2]
      simp (disch := omega) only [f_X12_daysTo_15, f_X12_daysTo, b_X12_daysTo_60, b_X12_daysTo_15, b_X12_daysTo_0, hw, hw2, e1, held_c, hz, neg_nI, lit_nI, nI_add, pk_mul, pk_sub, nI_clamp, inB_nI, gd_true, bnd_def, nI_leI, nI_ltI, nI_eq, nI_mI, mI_nI, nle_T, nle_F, nlt_T, nlt_F, neq_T, neq_F, ↓reduceIte, Nat.add_zero, Nat.zero_add, Nat.mul_zero, Nat.reduceAdd, Nat.reduceMul, Nat.reduceSub, ob1_e, ob2_e, ob3_e, ob4_e, ob6_e]
    · have hw2 : need ≤ w := by rw [le32]; rw [lt32] at hw; omega
      exact ⟨nI k, lt, st, by simp (disch := omega) only [f_X12_daysTo_15, f_X12_daysTo, b_X12_daysTo_60, b_X12_daysTo_15, b_X12_daysTo_0, hw, hw2, neg_nI, lit_nI, nI_add, pk_mul, pk_sub, nI_clamp, inB_nI, gd_true, bnd_def, nI_leI, nI_ltI, nI_eq, nI_mI, mI_nI, nle_T, nle_F, nlt_T, nlt_F, neq_T, neq_F, ↓reduceIte, Nat.add_zero, Nat.zero_add, Nat.mul_zero, Nat.reduceAdd, Nat.reduceMul, Nat.reduceSub, ob1_e, ob2_e, ob3_e, ob4_e, ob6_e]⟩
theorem untilY_c (hY : RiseY R mh mc mv mk mt ms mu) {g o : Nat} (hg : g < 6) (ho : o < 6) {need : Int32} (lt st : Nat → Int32) : ∃ r lt' st', f_X12_daysTo mh mc mv mk mt ms mu mg m lt st (nI g) (nI o) need = some (r, lt', st') := by
  obtain ⟨r, lt', st', e⟩ := untilY_l (mg := mg) (m := m) hY hg ho (need := need) 60 0 fu lt st (m (pl g o)) (by omega) (by have := fu_le; omega)
  refine ⟨r, lt', st', ?_⟩
  rw [← e]
  simp (disch := omega) only [f_X12_daysTo, b_X12_daysTo_0, pairAt_c, inB_pl, pl_clamp, neg_nI, lit_nI, nI_add, pk_mul, pk_sub, nI_clamp, inB_nI, gd_true, bnd_def, nI_leI, nI_ltI, nI_eq, nI_mI, mI_nI, nle_T, nle_F, nlt_T, nlt_F, neq_T, neq_F, ↓reduceIte, Nat.add_zero, Nat.zero_add, Nat.mul_zero, Nat.reduceAdd, Nat.reduceMul, Nat.reduceSub, ob1_e, ob2_e, ob3_e, ob4_e, ob6_e]
theorem soonX_in (hX : RiseX R lh ll l0 l1 l2 l3) (hG : G ≤ 6) {q a : Nat} (hq : q < 5) (ha : a < G) {w : Int32} {k : (Nat → Int32) → (Nat → Int32) → Int32 → Int32 → Int32 → Int32 → Int32 → Option (Int32 × (Nat → Int32) × (Nat → Int32))} : ∀ (j o n : Nat) (lt st : Nat → Int32) (v3 v4 : Int32), o + j = G → j < n → ∃ lt' st' v3' v4', f_X11_soonest_49 (nI G) (nI M) th ta tn lh ll l0 l1 l2 l3 c k n lt st (nI q) w v3 v4 (nI a) (nI o) = k lt' st' (nI q) w v3' v4' (nI (a + 1)) := by
  intro j
  induction j with
  | zero =>
    intro o n lt st v3 v4 ho h1
    obtain ⟨n, rfl⟩ : ∃ q, n = q + 1 := ⟨n - 1, by omega⟩
    exact ⟨lt, st, v3, v4, by simp (disch := omega) only [f_X11_soonest_49, b_X11_soonest_49, neg_nI, lit_nI, nI_add, pk_mul, pk_sub, nI_clamp, inB_nI, gd_true, bnd_def, nI_leI, nI_ltI, nI_eq, nI_mI, mI_nI, nle_T, nle_F, nlt_T, nlt_F, neq_T, neq_F, ↓reduceIte, Nat.add_zero, Nat.zero_add, Nat.mul_zero, Nat.reduceAdd, Nat.reduceMul, Nat.reduceSub, ob1_e, ob2_e, ob3_e, ob4_e, ob6_e]⟩
  | succ j ih =>
    intro o n lt st v3 v4 ho h1
    obtain ⟨n, rfl⟩ : ∃ q, n = q + 1 := ⟨n - 1, by omega⟩
    by_cases ht : th a = th o
    · have l : v4 ≤ v4 := by rw [le32]; omega
      obtain ⟨lt', st', v3', v4', e⟩ := ih (o + 1) n lt st v3 v4 (by omega) (by omega)
      refine ⟨lt', st', v3', v4', ?_⟩
      rw [← e]
      simp (disch := omega) only [f_X11_soonest_49, b_X11_soonest_49, b_X11_soonest_97, b_X11_soonest_119, unlike_c, ht, l, neg_nI, lit_nI, nI_add, pk_mul, pk_sub, nI_clamp, inB_nI, gd_true, bnd_def, nI_leI, nI_ltI, nI_eq, nI_mI, mI_nI, nle_T, nle_F, nlt_T, nlt_F, neq_T, neq_F, ↓reduceIte, Nat.add_zero, Nat.zero_add, Nat.mul_zero, Nat.reduceAdd, Nat.reduceMul, Nat.reduceSub, ob1_e, ob2_e, ob3_e, ob4_e, ob6_e]
    · obtain ⟨r, lt1, st1, e1⟩ := untilX_c (ta := ta) (c := c) hX (g := a) (o := o) (by omega) (by omega) (need := tn q) lt st
      by_cases hr : v4 ≤ r
      · obtain ⟨lt', st', v3', v4', e⟩ := ih (o + 1) n lt1 st1 v3 v4 (by omega) (by omega)
        refine ⟨lt', st', v3', v4', ?_⟩
        rw [← e]
        simp (disch := omega) only [f_X11_soonest_49, b_X11_soonest_49, b_X11_soonest_97, b_X11_soonest_119, unlike_c, ht, e1, hr, neg_nI, lit_nI, nI_add, pk_mul, pk_sub, nI_clamp, inB_nI, gd_true, bnd_def, nI_leI, nI_ltI, nI_eq, nI_mI, mI_nI, nle_T, nle_F, nlt_T, nlt_F, neq_T, neq_F, ↓reduceIte, Nat.add_zero, Nat.zero_add, Nat.mul_zero, Nat.reduceAdd, Nat.reduceMul, Nat.reduceSub, ob1_e, ob2_e, ob3_e, ob4_e, ob6_e]
      · obtain ⟨lt', st', v3', v4', e⟩ := ih (o + 1) n lt1 st1 (nI (10 * a + o)) r (by omega) (by omega)
        refine ⟨lt', st', v3', v4', ?_⟩
        rw [← e]
        simp (disch := omega) only [f_X11_soonest_49, b_X11_soonest_49, b_X11_soonest_97, b_X11_soonest_119, unlike_c, ht, e1, hr, neg_nI, lit_nI, nI_add, pk_mul, pk_sub, nI_clamp, inB_nI, gd_true, bnd_def, nI_leI, nI_ltI, nI_eq, nI_mI, mI_nI, nle_T, nle_F, nlt_T, nlt_F, neq_T, neq_F, ↓reduceIte, Nat.add_zero, Nat.zero_add, Nat.mul_zero, Nat.reduceAdd, Nat.reduceMul, Nat.reduceSub, ob1_e, ob2_e, ob3_e, ob4_e, ob6_e]
theorem soonX_out (hX : RiseX R lh ll l0 l1 l2 l3) (hG : G ≤ 6) {q : Nat} (hq : q < 5) {w : Int32} : ∀ (j a n : Nat) (lt st : Nat → Int32) (v3 v4 : Int32), a + j = G → j < n → ∃ r lt' st', f_X11_soonest_31 (nI G) (nI M) th ta tn lh ll l0 l1 l2 l3 c n lt st (nI q) w v3 v4 (nI a) = some (r, lt', st') := by
  intro j
  induction j with
  | zero =>
    intro a n lt st v3 v4 ha h1
    obtain ⟨n, rfl⟩ : ∃ q, n = q + 1 := ⟨n - 1, by omega⟩
    by_cases hw : w = nI 0
    · exact ⟨v3, lt, st, by simp (disch := omega) only [f_X11_soonest_31, b_X11_soonest_31, b_X11_soonest_140, hw, neg_nI, lit_nI, nI_add, pk_mul, pk_sub, nI_clamp, inB_nI, gd_true, bnd_def, nI_leI, nI_ltI, nI_eq, nI_mI, mI_nI, nle_T, nle_F, nlt_T, nlt_F, neq_T, neq_F, ↓reduceIte, Nat.add_zero, Nat.zero_add, Nat.mul_zero, Nat.reduceAdd, Nat.reduceMul, Nat.reduceSub, ob1_e, ob2_e, ob3_e, ob4_e, ob6_e]⟩
    · by_cases h3 : v3 = mI 1
      · exact ⟨v3, lt, st, by simp (disch := omega) only [f_X11_soonest_31, b_X11_soonest_31, b_X11_soonest_140, hw, h3, neg_nI, lit_nI, nI_add, pk_mul, pk_sub, nI_clamp, inB_nI, gd_true, bnd_def, nI_leI, nI_ltI, nI_eq, nI_mI, mI_nI, nle_T, nle_F, nlt_T, nlt_F, neq_T, neq_F, ↓reduceIte, Nat.add_zero, Nat.zero_add, Nat.mul_zero, Nat.reduceAdd, Nat.reduceMul, Nat.reduceSub, ob1_e, ob2_e, ob3_e, ob4_e, ob6_e]⟩
      · exact ⟨v4, lt, st, by simp (disch := omega) only [f_X11_soonest_31, b_X11_soonest_31, b_X11_soonest_140, hw, h3, neg_nI, lit_nI, nI_add, pk_mul, pk_sub, nI_clamp, inB_nI, gd_true, bnd_def, nI_leI, nI_ltI, nI_eq, nI_mI, mI_nI, nle_T, nle_F, nlt_T, nlt_F, neq_T, neq_F, ↓reduceIte, Nat.add_zero, Nat.zero_add, Nat.mul_zero, Nat.reduceAdd, Nat.reduceMul, Nat.reduceSub, ob1_e, ob2_e, ob3_e, ob4_e, ob6_e]⟩
  | succ j ih =>
    intro a n lt st v3 v4 ha h1
    obtain ⟨n, rfl⟩ : ∃ q, n = q + 1 := ⟨n - 1, by omega⟩
    obtain ⟨lt1, st1, u3, u4, e1⟩ := soonX_in (M := M) (th := th) (ta := ta) (tn := tn) (c := c) hX hG hq (show a < G by omega) (w := w) (k := f_X11_soonest_31 (nI G) (nI M) th ta tn lh ll l0 l1 l2 l3 c n) (G - (a + 1)) (a + 1) fu lt st v3 v4 (by omega) (by have := fu_le; omega)
    obtain ⟨r, lt', st', e2⟩ := ih (a + 1) n lt1 st1 u3 u4 (by omega) (by omega)
    refine ⟨r, lt', st', ?_⟩
    rw [← e2, ← e1]
    simp (disch := omega) only [f_X11_soonest_31, b_X11_soonest_31, neg_nI, lit_nI, nI_add, pk_mul, pk_sub, nI_clamp, inB_nI, gd_true, bnd_def, nI_leI, nI_ltI, nI_eq, nI_mI, mI_nI, nle_T, nle_F, nlt_T, nlt_F, neq_T, neq_F, ↓reduceIte, Nat.add_zero, Nat.zero_add, Nat.mul_zero, Nat.reduceAdd, Nat.reduceMul, Nat.reduceSub, ob1_e, ob2_e, ob3_e, ob4_e, ob6_e]
theorem soonY_in (hY : RiseY R mh mc mv mk mt ms mu) (hG : G ≤ 6) (hh : ∀ g, g < G → mg (4 * g) = th g) {q a : Nat} (hq : q < 5) (ha : a < G) {w : Int32} {k : (Nat → Int32) → (Nat → Int32) → Int32 → Int32 → Int32 → Int32 → Int32 → Option (Int32 × (Nat → Int32) × (Nat → Int32))} : ∀ (j o n : Nat) (lt st : Nat → Int32) (v3 v4 : Int32), o + j = G → j < n → ∃ lt' st' v3' v4', f_X12_soonest_42 (nI G) (nI M) mh mc mv mk mt ms mu mg mm m k n lt st (nI q) w v3 v4 (nI a) (nI o) = k lt' st' (nI q) w v3' v4' (nI (a + 1)) := by
  intro j
  induction j with
  | zero =>
    intro o n lt st v3 v4 ho h1
    obtain ⟨n, rfl⟩ : ∃ q, n = q + 1 := ⟨n - 1, by omega⟩
    exact ⟨lt, st, v3, v4, by simp (disch := omega) only [f_X12_soonest_42, b_X12_soonest_42, neg_nI, lit_nI, nI_add, pk_mul, pk_sub, nI_clamp, inB_nI, gd_true, bnd_def, nI_leI, nI_ltI, nI_eq, nI_mI, mI_nI, nle_T, nle_F, nlt_T, nlt_F, neq_T, neq_F, ↓reduceIte, Nat.add_zero, Nat.zero_add, Nat.mul_zero, Nat.reduceAdd, Nat.reduceMul, Nat.reduceSub, ob1_e, ob2_e, ob3_e, ob4_e, ob6_e]⟩
  | succ j ih =>
    intro o n lt st v3 v4 ho h1
    obtain ⟨n, rfl⟩ : ∃ q, n = q + 1 := ⟨n - 1, by omega⟩
    have g1 := hh a ha
    have g2 := hh o (by omega)
    by_cases ht : th a = th o
    · obtain ⟨lt', st', v3', v4', e⟩ := ih (o + 1) n lt st v3 v4 (by omega) (by omega)
      refine ⟨lt', st', v3', v4', ?_⟩
      rw [← e]
      simp (disch := omega) only [f_X12_soonest_42, f_X12_soonest, b_X12_soonest_116, b_X12_soonest_104, b_X12_soonest_84, b_X12_soonest_42, b_X12_soonest_137, b_X12_soonest_27, b_X12_soonest_0, areTwo_c, g1, g2, ht, neg_nI, lit_nI, nI_add, pk_mul, pk_sub, nI_clamp, inB_nI, gd_true, bnd_def, nI_leI, nI_ltI, nI_eq, nI_mI, mI_nI, nle_T, nle_F, nlt_T, nlt_F, neq_T, neq_F, ↓reduceIte, Nat.add_zero, Nat.zero_add, Nat.mul_zero, Nat.reduceAdd, Nat.reduceMul, Nat.reduceSub, ob1_e, ob2_e, ob3_e, ob4_e, ob6_e]
    · obtain ⟨r, lt1, st1, e1⟩ := untilY_c (mg := mg) (m := m) hY (g := a) (o := o) (by omega) (by omega) (need := mm (2 * q + 1)) lt st
      by_cases hr : r = mI 1
      · obtain ⟨lt', st', v3', v4', e⟩ := ih (o + 1) n lt1 st1 v3 v4 (by omega) (by omega)
        refine ⟨lt', st', v3', v4', ?_⟩
        rw [← e]
        simp (disch := omega) only [f_X12_soonest_42, f_X12_soonest, b_X12_soonest_116, b_X12_soonest_104, b_X12_soonest_84, b_X12_soonest_42, b_X12_soonest_137, b_X12_soonest_27, b_X12_soonest_0, areTwo_c, g1, g2, ht, e1, hr, neg_nI, lit_nI, nI_add, pk_mul, pk_sub, nI_clamp, inB_nI, gd_true, bnd_def, nI_leI, nI_ltI, nI_eq, nI_mI, mI_nI, nle_T, nle_F, nlt_T, nlt_F, neq_T, neq_F, ↓reduceIte, Nat.add_zero, Nat.zero_add, Nat.mul_zero, Nat.reduceAdd, Nat.reduceMul, Nat.reduceSub, ob1_e, ob2_e, ob3_e, ob4_e, ob6_e]
      · by_cases h3 : v3 = mI 1
        · obtain ⟨lt', st', v3', v4', e⟩ := ih (o + 1) n lt1 st1 (nI (cd a o)) r (by omega) (by omega)
          refine ⟨lt', st', v3', v4', ?_⟩
          rw [← e]
          simp (disch := omega) only [f_X12_soonest_42, f_X12_soonest, b_X12_soonest_116, b_X12_soonest_104, b_X12_soonest_84, b_X12_soonest_42, b_X12_soonest_137, b_X12_soonest_27, b_X12_soonest_0, areTwo_c, g1, g2, ht, e1, hr, h3, codeOf_c, neg_nI, lit_nI, nI_add, pk_mul, pk_sub, nI_clamp, inB_nI, gd_true, bnd_def, nI_leI, nI_ltI, nI_eq, nI_mI, mI_nI, nle_T, nle_F, nlt_T, nlt_F, neq_T, neq_F, ↓reduceIte, Nat.add_zero, Nat.zero_add, Nat.mul_zero, Nat.reduceAdd, Nat.reduceMul, Nat.reduceSub, ob1_e, ob2_e, ob3_e, ob4_e, ob6_e]
        · by_cases h4 : v4 ≤ r
          · obtain ⟨lt', st', v3', v4', e⟩ := ih (o + 1) n lt1 st1 v3 v4 (by omega) (by omega)
            refine ⟨lt', st', v3', v4', ?_⟩
            rw [← e]
            simp (disch := omega) only [f_X12_soonest_42, f_X12_soonest, b_X12_soonest_116, b_X12_soonest_104, b_X12_soonest_84, b_X12_soonest_42, b_X12_soonest_137, b_X12_soonest_27, b_X12_soonest_0, areTwo_c, g1, g2, ht, e1, hr, h3, h4, neg_nI, lit_nI, nI_add, pk_mul, pk_sub, nI_clamp, inB_nI, gd_true, bnd_def, nI_leI, nI_ltI, nI_eq, nI_mI, mI_nI, nle_T, nle_F, nlt_T, nlt_F, neq_T, neq_F, ↓reduceIte, Nat.add_zero, Nat.zero_add, Nat.mul_zero, Nat.reduceAdd, Nat.reduceMul, Nat.reduceSub, ob1_e, ob2_e, ob3_e, ob4_e, ob6_e]
          · obtain ⟨lt', st', v3', v4', e⟩ := ih (o + 1) n lt1 st1 (nI (cd a o)) r (by omega) (by omega)
            refine ⟨lt', st', v3', v4', ?_⟩
            rw [← e]
            simp (disch := omega) only [f_X12_soonest_42, f_X12_soonest, b_X12_soonest_116, b_X12_soonest_104, b_X12_soonest_84, b_X12_soonest_42, b_X12_soonest_137, b_X12_soonest_27, b_X12_soonest_0, areTwo_c, g1, g2, ht, e1, hr, h3, h4, codeOf_c, neg_nI, lit_nI, nI_add, pk_mul, pk_sub, nI_clamp, inB_nI, gd_true, bnd_def, nI_leI, nI_ltI, nI_eq, nI_mI, mI_nI, nle_T, nle_F, nlt_T, nlt_F, neq_T, neq_F, ↓reduceIte, Nat.add_zero, Nat.zero_add, Nat.mul_zero, Nat.reduceAdd, Nat.reduceMul, Nat.reduceSub, ob1_e, ob2_e, ob3_e, ob4_e, ob6_e]
theorem soonY_out (hY : RiseY R mh mc mv mk mt ms mu) (hG : G ≤ 6) (hh : ∀ g, g < G → mg (4 * g) = th g) {q : Nat} (hq : q < 5) {w : Int32} : ∀ (j a n : Nat) (lt st : Nat → Int32) (v3 v4 : Int32), a + j = G → j < n → ∃ r lt' st', f_X12_soonest_27 (nI G) (nI M) mh mc mv mk mt ms mu mg mm m n lt st (nI q) w v3 v4 (nI a) = some (r, lt', st') := by
  intro j
  induction j with
  | zero =>
    intro a n lt st v3 v4 ha h1
    obtain ⟨n, rfl⟩ : ∃ q, n = q + 1 := ⟨n - 1, by omega⟩
    by_cases h3 : v3 = mI 1
    · exact ⟨v3, lt, st, by simp (disch := omega) only [f_X12_soonest_27, f_X12_soonest, b_X12_soonest_116, b_X12_soonest_104, b_X12_soonest_84, b_X12_soonest_42, b_X12_soonest_137, b_X12_soonest_27, b_X12_soonest_0, h3, neg_nI, lit_nI, nI_add, pk_mul, pk_sub, nI_clamp, inB_nI, gd_true, bnd_def, nI_leI, nI_ltI, nI_eq, nI_mI, mI_nI, nle_T, nle_F, nlt_T, nlt_F, neq_T, neq_F, ↓reduceIte, Nat.add_zero, Nat.zero_add, Nat.mul_zero, Nat.reduceAdd, Nat.reduceMul, Nat.reduceSub, ob1_e, ob2_e, ob3_e, ob4_e, ob6_e]⟩
    · by_cases hw : w = nI 0
      · exact ⟨v3, lt, st, by simp (disch := omega) only [f_X12_soonest_27, f_X12_soonest, b_X12_soonest_116, b_X12_soonest_104, b_X12_soonest_84, b_X12_soonest_42, b_X12_soonest_137, b_X12_soonest_27, b_X12_soonest_0, hw, h3, neg_nI, lit_nI, nI_add, pk_mul, pk_sub, nI_clamp, inB_nI, gd_true, bnd_def, nI_leI, nI_ltI, nI_eq, nI_mI, mI_nI, nle_T, nle_F, nlt_T, nlt_F, neq_T, neq_F, ↓reduceIte, Nat.add_zero, Nat.zero_add, Nat.mul_zero, Nat.reduceAdd, Nat.reduceMul, Nat.reduceSub, ob1_e, ob2_e, ob3_e, ob4_e, ob6_e]⟩
      · exact ⟨v4, lt, st, by simp (disch := omega) only [f_X12_soonest_27, f_X12_soonest, b_X12_soonest_116, b_X12_soonest_104, b_X12_soonest_84, b_X12_soonest_42, b_X12_soonest_137, b_X12_soonest_27, b_X12_soonest_0, hw, h3, neg_nI, lit_nI, nI_add, pk_mul, pk_sub, nI_clamp, inB_nI, gd_true, bnd_def, nI_leI, nI_ltI, nI_eq, nI_mI, mI_nI, nle_T, nle_F, nlt_T, nlt_F, neq_T, neq_F, ↓reduceIte, Nat.add_zero, Nat.zero_add, Nat.mul_zero, Nat.reduceAdd, Nat.reduceMul, Nat.reduceSub, ob1_e, ob2_e, ob3_e, ob4_e, ob6_e]⟩
  | succ j ih =>
    intro a n lt st v3 v4 ha h1
    obtain ⟨n, rfl⟩ : ∃ q, n = q + 1 := ⟨n - 1, by omega⟩
    obtain ⟨lt1, st1, u3, u4, e1⟩ := soonY_in (M := M) (mm := mm) (m := m) hY hG hh hq (show a < G by omega) (w := w) (k := f_X12_soonest_27 (nI G) (nI M) mh mc mv mk mt ms mu mg mm m n) (G - (a + 1)) (a + 1) fu lt st v3 v4 (by omega) (by have := fu_le; omega)
    obtain ⟨r, lt', st', e2⟩ := ih (a + 1) n lt1 st1 u3 u4 (by omega) (by omega)
    refine ⟨r, lt', st', ?_⟩
    rw [← e2, ← e1]
    simp (disch := omega) only [f_X12_soonest_27, b_X12_soonest_27, neg_nI, lit_nI, nI_add, pk_mul, pk_sub, nI_clamp, inB_nI, gd_true, bnd_def, nI_leI, nI_ltI, nI_eq, nI_mI, mI_nI, nle_T, nle_F, nlt_T, nlt_F, neq_T, neq_F, ↓reduceIte, Nat.add_zero, Nat.zero_add, Nat.mul_zero, Nat.reduceAdd, Nat.reduceMul, Nat.reduceSub, ob1_e, ob2_e, ob3_e, ob4_e, ob6_e]
theorem s_soonest (hX : RiseX R lh ll l0 l1 l2 l3) (hY : RiseY R mh mc mv mk mt ms mu) (hG : G ≤ 6) (hM : M ≤ 5) (hh : ∀ g, g < G → mg (4 * g) = th g) (lt st lt2 st2 : Nat → Int32) (x v : Int32) : ∃ r lt' st' r2 lt2' st2', f_X11_soonest (nI G) (nI M) th ta tn lh ll l0 l1 l2 l3 c lt st x v = some (r, lt', st') ∧ f_X12_soonest (nI G) (nI M) mh mc mv mk mt ms mu mg mm m lt2 st2 x v = some (r2, lt2', st2') := by
  rcases matter_or x (M := M) (by omega) with ⟨q, hq, rfl⟩ | ⟨q1, q2⟩
  · rcases rng v 1 (by omega) with ⟨k, hk, rfl⟩ | k0 | ⟨k0, k1, k2⟩
    · obtain ⟨r, lt', st', e1⟩ := soonX_out (M := M) (th := th) (ta := ta) (tn := tn) (c := c) hX hG (q := q) (by omega) (w := nI k) G 0 fu lt st (mI 1) (nI 61) (by omega) (by have := fu_le; omega)
      obtain ⟨r2, lt2', st2', e2⟩ := soonY_out (M := M) (mm := mm) (m := m) hY hG hh (q := q) (by omega) (w := nI k) G 0 fu lt2 st2 (mI 1) (nI 0) (by omega) (by have := fu_le; omega)
      refine ⟨r, lt', st', r2, lt2', st2', ?_, ?_⟩
      · rw [← e1]
        simp (disch := omega) only [f_X11_soonest, b_X11_soonest_0, hasMatter_y, neg_nI, lit_nI, nI_add, pk_mul, pk_sub, nI_clamp, inB_nI, gd_true, bnd_def, nI_leI, nI_ltI, nI_eq, nI_mI, mI_nI, nle_T, nle_F, nlt_T, nlt_F, neq_T, neq_F, ↓reduceIte, Nat.add_zero, Nat.zero_add, Nat.mul_zero, Nat.reduceAdd, Nat.reduceMul, Nat.reduceSub, ob1_e, ob2_e, ob3_e, ob4_e, ob6_e]
      · rw [← e2]
        simp (disch := omega) only [f_X12_soonest, b_X12_soonest_0, isMatter_y, in_c, neg_nI, lit_nI, nI_add, pk_mul, pk_sub, nI_clamp, inB_nI, gd_true, bnd_def, nI_leI, nI_ltI, nI_eq, nI_mI, mI_nI, nle_T, nle_F, nlt_T, nlt_F, neq_T, neq_F, ↓reduceIte, Nat.add_zero, Nat.zero_add, Nat.mul_zero, Nat.reduceAdd, Nat.reduceMul, Nat.reduceSub, ob1_e, ob2_e, ob3_e, ob4_e, ob6_e]
    · refine ⟨mI 1, lt, st, mI 1, lt2, st2, ?_, ?_⟩
      · simp (disch := omega) only [f_X11_soonest, b_X11_soonest_0, hasMatter_y, k0, neg_nI, lit_nI, nI_add, pk_mul, pk_sub, nI_clamp, inB_nI, gd_true, bnd_def, nI_leI, nI_ltI, nI_eq, nI_mI, mI_nI, nle_T, nle_F, nlt_T, nlt_F, neq_T, neq_F, ↓reduceIte, Nat.add_zero, Nat.zero_add, Nat.mul_zero, Nat.reduceAdd, Nat.reduceMul, Nat.reduceSub, ob1_e, ob2_e, ob3_e, ob4_e, ob6_e]
      · simp (disch := omega) only [f_X12_soonest, b_X12_soonest_0, isMatter_y, in_lo (hi := nI 1) k0, neg_nI, lit_nI, nI_add, pk_mul, pk_sub, nI_clamp, inB_nI, gd_true, bnd_def, nI_leI, nI_ltI, nI_eq, nI_mI, mI_nI, nle_T, nle_F, nlt_T, nlt_F, neq_T, neq_F, ↓reduceIte, Nat.add_zero, Nat.zero_add, Nat.mul_zero, Nat.reduceAdd, Nat.reduceMul, Nat.reduceSub, ob1_e, ob2_e, ob3_e, ob4_e, ob6_e]
    · refine ⟨mI 1, lt, st, mI 1, lt2, st2, ?_, ?_⟩
      · simp (disch := omega) only [f_X11_soonest, b_X11_soonest_0, hasMatter_y, k0, k2, neg_nI, lit_nI, nI_add, pk_mul, pk_sub, nI_clamp, inB_nI, gd_true, bnd_def, nI_leI, nI_ltI, nI_eq, nI_mI, mI_nI, nle_T, nle_F, nlt_T, nlt_F, neq_T, neq_F, ↓reduceIte, Nat.add_zero, Nat.zero_add, Nat.mul_zero, Nat.reduceAdd, Nat.reduceMul, Nat.reduceSub, ob1_e, ob2_e, ob3_e, ob4_e, ob6_e]
      · simp (disch := omega) only [f_X12_soonest, b_X12_soonest_0, isMatter_y, in_hi (lo := nI 0) k1, neg_nI, lit_nI, nI_add, pk_mul, pk_sub, nI_clamp, inB_nI, gd_true, bnd_def, nI_leI, nI_ltI, nI_eq, nI_mI, mI_nI, nle_T, nle_F, nlt_T, nlt_F, neq_T, neq_F, ↓reduceIte, Nat.add_zero, Nat.zero_add, Nat.mul_zero, Nat.reduceAdd, Nat.reduceMul, Nat.reduceSub, ob1_e, ob2_e, ob3_e, ob4_e, ob6_e]
  · refine ⟨mI 1, lt, st, mI 1, lt2, st2, ?_, ?_⟩
    · simp (disch := omega) only [f_X11_soonest, b_X11_soonest_0, q1, neg_nI, lit_nI, nI_add, pk_mul, pk_sub, nI_clamp, inB_nI, gd_true, bnd_def, nI_leI, nI_ltI, nI_eq, nI_mI, mI_nI, nle_T, nle_F, nlt_T, nlt_F, neq_T, neq_F, ↓reduceIte, Nat.add_zero, Nat.zero_add, Nat.mul_zero, Nat.reduceAdd, Nat.reduceMul, Nat.reduceSub, ob1_e, ob2_e, ob3_e, ob4_e, ob6_e]
    · simp (disch := omega) only [f_X12_soonest, b_X12_soonest_0, q2, neg_nI, lit_nI, nI_add, pk_mul, pk_sub, nI_clamp, inB_nI, gd_true, bnd_def, nI_leI, nI_ltI, nI_eq, nI_mI, mI_nI, nle_T, nle_F, nlt_T, nlt_F, neq_T, neq_F, ↓reduceIte, Nat.add_zero, Nat.zero_add, Nat.mul_zero, Nat.reduceAdd, Nat.reduceMul, Nat.reduceSub, ob1_e, ob2_e, ob3_e, ob4_e, ob6_e]
end TT
