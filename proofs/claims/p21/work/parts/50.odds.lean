/-! odds answer -/
section OD
variable {R : R6} {lh : Int32} {ll l0 l1 l2 l3 : Nat → Int32} {mh : Int32} {mc mv mk mt ms mu : Nat → Int32}
variable {G M : Nat} {th ta tn mg mm c m : Nat → Int32}
theorem splitX_l (hX : RiseX R lh ll l0 l1 l2 l3) {g o N : Nat} (hg : g < 6) (ho : o < 6) (hN8 : N ≤ 8) {need ch : Int32} : ∀ (j k D : Nat) (lt st : Nat → Int32) (p w : Int32), k + j = 8 → 2 * j + 1 ≤ D → ∃ r lt' st', f_X7_split D ta lh ll l0 l1 l2 l3 c (nI (10 * g + o)) need (nI N) ch lt st p w (nI k) = some (r, lt', st') := by
  have ed : nI (10 * g + o) / nI 10 = nI g := by
    rw [pk_div (by omega) (by omega) (by omega), show (10 * g + o) / 10 = g by omega]
  have er : rem (nI (10 * g + o)) (nI 10) = nI o := by
    rw [show rem (nI (10 * g + o)) (nI 10) = nI ((10 * g + o) % 10) from pk_rem (by omega) (by omega) (by omega), show (10 * g + o) % 10 = o by omega]
  intro j
  induction j with
  | zero =>
    intro k D lt st p w hk hD
    obtain ⟨D, rfl⟩ : ∃ q, D = q + 1 := ⟨D - 1, by omega⟩
    refine ⟨nI 0, lt, st, ?_⟩
    show g_X7_split (rc_X7_behind D).1 (rc_X7_behind D).2 ta lh ll l0 l1 l2 l3 c (nI (10 * g + o)) need (nI N) ch lt st p w (nI k) = _
    simp (disch := omega) only [g_X7_split, b_X7_split_0, neg_nI, lit_nI, nI_add, pk_mul, pk_sub, nI_clamp, inB_nI, gd_true, bnd_def, nI_leI, nI_ltI, nI_eq, nI_mI, mI_nI, nle_T, nle_F, nlt_T, nlt_F, neq_T, neq_F, ↓reduceIte, Nat.add_zero, Nat.zero_add, Nat.mul_zero, Nat.reduceAdd, Nat.reduceMul, Nat.reduceSub, ob1_e, ob2_e, ob3_e, ob4_e, ob6_e]
  | succ j ih =>
    intro k D lt st p w hk hD
    obtain ⟨D, rfl⟩ : ∃ q, D = q + 1 + 1 := ⟨D - 2, by omega⟩
    by_cases hNk : N ≤ k
    · refine ⟨nI 0, lt, st, ?_⟩
      show g_X7_split (rc_X7_behind (D + 1)).1 (rc_X7_behind (D + 1)).2 ta lh ll l0 l1 l2 l3 c (nI (10 * g + o)) need (nI N) ch lt st p w (nI k) = _
      simp (disch := omega) only [g_X7_split, b_X7_split_0, neg_nI, lit_nI, nI_add, pk_mul, pk_sub, nI_clamp, inB_nI, gd_true, bnd_def, nI_leI, nI_ltI, nI_eq, nI_mI, mI_nI, nle_T, nle_F, nlt_T, nlt_F, neq_T, neq_F, ↓reduceIte, Nat.add_zero, Nat.zero_add, Nat.mul_zero, Nat.reduceAdd, Nat.reduceMul, Nat.reduceSub, ob1_e, ob2_e, ob3_e, ob4_e, ob6_e]
    · by_cases hp : p = nI 0
      · refine ⟨nI 0, lt, st, ?_⟩
        show g_X7_split (rc_X7_behind (D + 1)).1 (rc_X7_behind (D + 1)).2 ta lh ll l0 l1 l2 l3 c (nI (10 * g + o)) need (nI N) ch lt st p w (nI k) = _
        simp (disch := omega) only [g_X7_split, b_X7_split_0, hp, neg_nI, lit_nI, nI_add, pk_mul, pk_sub, nI_clamp, inB_nI, gd_true, bnd_def, nI_leI, nI_ltI, nI_eq, nI_mI, mI_nI, nle_T, nle_F, nlt_T, nlt_F, neq_T, neq_F, ↓reduceIte, Nat.add_zero, Nat.zero_add, Nat.mul_zero, Nat.reduceAdd, Nat.reduceMul, Nat.reduceSub, ob1_e, ob2_e, ob3_e, ob4_e, ob6_e]
      · have beh : ∀ (lt st : Nat → Int32) (p w : Int32), ∃ r lt' st', (rc_X7_behind (D + 1)).1 ta lh ll l0 l1 l2 l3 c (nI (10 * g + o)) need (nI N) ch lt st p w (nI (k + 1)) = some (r, lt', st') := by
          intro lt st p w
          by_cases hw : w < need
          · obtain ⟨r, lt', st', e⟩ := ih (k + 1) D lt st p w (by omega) (by omega)
            refine ⟨r, lt', st', ?_⟩
            show g_X7_behind (rc_X7_behind D).1 (rc_X7_behind D).2 ta lh ll l0 l1 l2 l3 c (nI (10 * g + o)) need (nI N) ch lt st p w (nI (k + 1)) = _
            have e' : (rc_X7_behind D).2 ta lh ll l0 l1 l2 l3 c (nI (10 * g + o)) need (nI N) ch lt st p w (nI (k + 1)) = some (r, lt', st') := e
            simp (disch := omega) only [g_X7_behind, b_X7_behind_0, hw, e', neg_nI, lit_nI, nI_add, pk_mul, pk_sub, nI_clamp, inB_nI, gd_true, bnd_def, nI_leI, nI_ltI, nI_eq, nI_mI, mI_nI, nle_T, nle_F, nlt_T, nlt_F, neq_T, neq_F, ↓reduceIte, Nat.add_zero, Nat.zero_add, Nat.mul_zero, Nat.reduceAdd, Nat.reduceMul, Nat.reduceSub, ob1_e, ob2_e, ob3_e, ob4_e, ob6_e]
          · refine ⟨p, lt, st, ?_⟩
            show g_X7_behind (rc_X7_behind D).1 (rc_X7_behind D).2 ta lh ll l0 l1 l2 l3 c (nI (10 * g + o)) need (nI N) ch lt st p w (nI (k + 1)) = _
            simp (disch := omega) only [g_X7_behind, b_X7_behind_0, hw, neg_nI, lit_nI, nI_add, pk_mul, pk_sub, nI_clamp, inB_nI, gd_true, bnd_def, nI_leI, nI_ltI, nI_eq, nI_mI, mI_nI, nle_T, nle_F, nlt_T, nlt_F, neq_T, neq_F, ↓reduceIte, Nat.add_zero, Nat.zero_add, Nat.mul_zero, Nat.reduceAdd, Nat.reduceMul, Nat.reduceSub, ob1_e, ob2_e, ob3_e, ob4_e, ob6_e]
        obtain ⟨z, lt1, st1, e1⟩ := warmX_e hX (ta := ta) (c := c) (g := g) (o := o) (w := w) (k := nI k) hg ho lt st
        generalize hq : ((p.toInt64 * ch.toInt64) / (100 : Int64)).toInt32 = qq
        obtain ⟨r2, lt2, st2, e2⟩ := beh lt1 st1 qq (w / nI 2)
        obtain ⟨r3, lt3, st3, e3⟩ := beh lt2 st2 (p - qq) z
        refine ⟨r2 + r3, lt3, st3, ?_⟩
        show g_X7_split (rc_X7_behind (D + 1)).1 (rc_X7_behind (D + 1)).2 ta lh ll l0 l1 l2 l3 c (nI (10 * g + o)) need (nI N) ch lt st p w (nI k) = _
        simp (disch := omega) only [g_X7_split, b_X7_split_0, hp, hq, er, ed, e1, e2, e3, neg_nI, lit_nI, nI_add, pk_mul, pk_sub, nI_clamp, inB_nI, gd_true, bnd_def, nI_leI, nI_ltI, nI_eq, nI_mI, mI_nI, nle_T, nle_F, nlt_T, nlt_F, neq_T, neq_F, ↓reduceIte, Nat.add_zero, Nat.zero_add, Nat.mul_zero, Nat.reduceAdd, Nat.reduceMul, Nat.reduceSub, ob1_e, ob2_e, ob3_e, ob4_e, ob6_e]
theorem oddsY_l (hY : RiseY R mh mc mv mk mt ms mu) {g o : Nat} (hg : g < 6) (ho : o < 6) {need ch : Int32} : ∀ (j D : Nat) (lt st : Nat → Int32) (k w p : Int32), j ≤ 8 → j + 1 ≤ D → ∃ r lt' st', f_X12_oddsFrom D mh mc mv mk mt ms mu mg m lt st (nI g) (nI o) need k (nI j) w ch p = some (r, lt', st') := by
  intro j
  induction j with
  | zero =>
    intro D lt st k w p hj hD
    obtain ⟨D, rfl⟩ : ∃ q, D = q + 1 := ⟨D - 1, by omega⟩
    refine ⟨nI 0, lt, st, ?_⟩
    show g_X12_oddsFrom (rc_X12_oddsFrom D) mh mc mv mk mt ms mu mg m lt st (nI g) (nI o) need k (nI 0) w ch p = _
    simp (disch := omega) only [g_X12_oddsFrom, b_X12_oddsFrom_0, neg_nI, lit_nI, nI_add, pk_mul, pk_sub, nI_clamp, inB_nI, gd_true, bnd_def, nI_leI, nI_ltI, nI_eq, nI_mI, mI_nI, nle_T, nle_F, nlt_T, nlt_F, neq_T, neq_F, ↓reduceIte, Nat.add_zero, Nat.zero_add, Nat.mul_zero, Nat.reduceAdd, Nat.reduceMul, Nat.reduceSub, ob1_e, ob2_e, ob3_e, ob4_e, ob6_e]
  | succ j ih =>
    intro D lt st k w p hj hD
    obtain ⟨D, rfl⟩ : ∃ q, D = q + 1 := ⟨D - 1, by omega⟩
    obtain ⟨fu2, hfu⟩ : ∃ q, fu = q + 1 + 1 + 1 := ⟨fu - 3, by have := fu_le; omega⟩
    generalize hq : ((p.toInt64 * ch.toInt64) / (100 : Int64)).toInt32 = qq
    have rc : ∀ (lt st : Nat → Int32) (k w p : Int32), ∃ r lt' st', rc_X12_oddsFrom D mh mc mv mk mt ms mu mg m lt st (nI g) (nI o) need k (nI j) w ch p = some (r, lt', st') := fun lt st k w p => ih D lt st k w p (by omega) (by omega)
    obtain ⟨lt1, st1, e1⟩ := riseFrom_c hY (mg := mg) (m := m) (lt := lt) (st := st) (g := g) (o := o) (w := w) (d := m 68 + k) ⟨hg, ho⟩
    generalize hz : hd (w + rv R (tA mg) m g o w (m 68 + k)) = z
    have s0 : ∀ n, ∃ v lt' st', f_X12_oddsFrom_27 (rc_X12_oddsFrom D) mh mc mv mk mt ms mu mg m (n + 1) lt st (nI g) (nI o) need k (nI (j + 1)) w ch p qq (nI 0) (nI 0) = f_X12_oddsFrom_27 (rc_X12_oddsFrom D) mh mc mv mk mt ms mu mg m n lt' st' (nI g) (nI o) need k (nI (j + 1)) w ch p qq v (nI 1) := by
      intro n
      by_cases hw : z < need
      · obtain ⟨r2, lt2, st2, e2⟩ := rc lt1 st1 (k + nI 1) z (p - qq)
        refine ⟨nI 0 + r2, lt2, st2, ?_⟩
        simp (disch := omega) only [f_X12_oddsFrom_27, b_X12_oddsFrom_27, b_X12_oddsFrom_70, b_X12_oddsFrom_88, b_X12_oddsFrom_124, e1, held_c, hz, hw, e2, Nat.add_sub_cancel, neg_nI, lit_nI, nI_add, pk_mul, pk_sub, nI_clamp, inB_nI, gd_true, bnd_def, nI_leI, nI_ltI, nI_eq, nI_mI, mI_nI, nle_T, nle_F, nlt_T, nlt_F, neq_T, neq_F, ↓reduceIte, Nat.add_zero, Nat.zero_add, Nat.mul_zero, Nat.reduceAdd, Nat.reduceMul, Nat.reduceSub, ob1_e, ob2_e, ob3_e, ob4_e, ob6_e]
      · refine ⟨nI 0 + (p - qq), lt1, st1, ?_⟩
        simp (disch := omega) only [f_X12_oddsFrom_27, b_X12_oddsFrom_27, b_X12_oddsFrom_70, b_X12_oddsFrom_88, b_X12_oddsFrom_124, e1, held_c, hz, hw, neg_nI, lit_nI, nI_add, pk_mul, pk_sub, nI_clamp, inB_nI, gd_true, bnd_def, nI_leI, nI_ltI, nI_eq, nI_mI, mI_nI, nle_T, nle_F, nlt_T, nlt_F, neq_T, neq_F, ↓reduceIte, Nat.add_zero, Nat.zero_add, Nat.mul_zero, Nat.reduceAdd, Nat.reduceMul, Nat.reduceSub, ob1_e, ob2_e, ob3_e, ob4_e, ob6_e]
    obtain ⟨v, lt2, st2, s0⟩ := s0 (fu2 + 1 + 1)
    have s1 : ∀ n, ∃ v' lt' st', f_X12_oddsFrom_27 (rc_X12_oddsFrom D) mh mc mv mk mt ms mu mg m (n + 1) lt2 st2 (nI g) (nI o) need k (nI (j + 1)) w ch p qq v (nI 1) = f_X12_oddsFrom_27 (rc_X12_oddsFrom D) mh mc mv mk mt ms mu mg m n lt' st' (nI g) (nI o) need k (nI (j + 1)) w ch p qq v' (nI 2) := by
      intro n
      by_cases hw : w / nI 2 < need
      · obtain ⟨r3, lt3, st3, e3⟩ := rc lt2 st2 (k + nI 1) (w / nI 2) qq
        refine ⟨v + r3, lt3, st3, ?_⟩
        simp (disch := omega) only [f_X12_oddsFrom_27, b_X12_oddsFrom_27, b_X12_oddsFrom_70, b_X12_oddsFrom_88, b_X12_oddsFrom_124, hw, e3, Nat.add_sub_cancel, neg_nI, lit_nI, nI_add, pk_mul, pk_sub, nI_clamp, inB_nI, gd_true, bnd_def, nI_leI, nI_ltI, nI_eq, nI_mI, mI_nI, nle_T, nle_F, nlt_T, nlt_F, neq_T, neq_F, ↓reduceIte, Nat.add_zero, Nat.zero_add, Nat.mul_zero, Nat.reduceAdd, Nat.reduceMul, Nat.reduceSub, ob1_e, ob2_e, ob3_e, ob4_e, ob6_e]
      · refine ⟨v + qq, lt2, st2, ?_⟩
        simp (disch := omega) only [f_X12_oddsFrom_27, b_X12_oddsFrom_27, b_X12_oddsFrom_70, b_X12_oddsFrom_88, b_X12_oddsFrom_124, hw, neg_nI, lit_nI, nI_add, pk_mul, pk_sub, nI_clamp, inB_nI, gd_true, bnd_def, nI_leI, nI_ltI, nI_eq, nI_mI, mI_nI, nle_T, nle_F, nlt_T, nlt_F, neq_T, neq_F, ↓reduceIte, Nat.add_zero, Nat.zero_add, Nat.mul_zero, Nat.reduceAdd, Nat.reduceMul, Nat.reduceSub, ob1_e, ob2_e, ob3_e, ob4_e, ob6_e]
    obtain ⟨v', lt3, st3, s1⟩ := s1 (fu2 + 1)
    refine ⟨v', lt3, st3, ?_⟩
    show g_X12_oddsFrom (rc_X12_oddsFrom D) mh mc mv mk mt ms mu mg m lt st (nI g) (nI o) need k (nI (j + 1)) w ch p = _
    have s2 : f_X12_oddsFrom_27 (rc_X12_oddsFrom D) mh mc mv mk mt ms mu mg m (fu2 + 1) lt3 st3 (nI g) (nI o) need k (nI (j + 1)) w ch p qq v' (nI 2) = some (v', lt3, st3) := by
      simp (disch := omega) only [f_X12_oddsFrom_27, b_X12_oddsFrom_27, neg_nI, lit_nI, nI_add, pk_mul, pk_sub, nI_clamp, inB_nI, gd_true, bnd_def, nI_leI, nI_ltI, nI_eq, nI_mI, mI_nI, nle_T, nle_F, nlt_T, nlt_F, neq_T, neq_F, ↓reduceIte, Nat.add_zero, Nat.zero_add, Nat.mul_zero, Nat.reduceAdd, Nat.reduceMul, Nat.reduceSub, ob1_e, ob2_e, ob3_e, ob4_e, ob6_e]
    have s3 := (s0.trans s1).trans s2
    rw [← hfu] at s3
    simp (disch := omega) only [g_X12_oddsFrom, b_X12_oddsFrom_0, hq, s3, neg_nI, lit_nI, nI_add, pk_mul, pk_sub, nI_clamp, inB_nI, gd_true, bnd_def, nI_leI, nI_ltI, nI_eq, nI_mI, mI_nI, nle_T, nle_F, nlt_T, nlt_F, neq_T, neq_F, ↓reduceIte, Nat.add_zero, Nat.zero_add, Nat.mul_zero, Nat.reduceAdd, Nat.reduceMul, Nat.reduceSub, ob1_e, ob2_e, ob3_e, ob4_e, ob6_e]
theorem s_odds (hX : RiseX R lh ll l0 l1 l2 l3) (hY : RiseY R mh mc mv mk mt ms mu) (hG : G ≤ 6) (hM : M ≤ 5) (hh : ∀ g, g < G → mg (4 * g) = th g) (an : Nat) (lt st lt2 st2 : Nat → Int32) (qs : Value) (k1 k2 k3 k4 : Int32) (u x y v ch : Int32) : ∃ r lt' st' qs' k1' k2' k3' k4' r2 lt2' st2', f_X11_odds (nI G) (nI M) th ta tn lh ll l0 l1 l2 l3 c an lt st qs k1 k2 k3 k4 u x y v ch = some (r, lt', st', qs', k1', k2', k3', k4') ∧ f_X12_odds (nI G) (nI M) mh mc mv mk mt ms mu mg mm m lt2 st2 u x y v ch = some (r2, lt2', st2') ∧ (qs' = qs ∨ qs' = .ref an) := by
  rcases matter_or u (M := M) (by omega) with ⟨q, hq, rfl⟩ | ⟨q1, q2⟩
  · rcases two_or x y (th := th) (mg := mg) hG hh with ⟨g, o, hg, ho, rfl, rfl, ht⟩ | ⟨q1, q2⟩
    · have g1 := hh g hg
      have g2 := hh o ho
      rcases rng v 8 (by omega) with ⟨N, hN, rfl⟩ | k0 | ⟨k0, k1', k2'⟩
      · rcases rng ch 100 (by omega) with ⟨j, hj, rfl⟩ | k0 | ⟨k0, k1', k2'⟩
        · obtain ⟨r, lt', st', e1⟩ := splitX_l (ta := ta) (c := c) hX (g := g) (o := o) (N := N) (by omega) (by omega) hN (need := tn q) (ch := nI j) 8 0 60 lt st (nI 1000000000) (c (pl g o)) (by omega) (by omega)
          obtain ⟨r2, lt2', st2', e2⟩ := oddsY_l (mg := mg) (m := m) hY (g := g) (o := o) (by omega) (by omega) (need := mm (2 * q + 1)) (ch := nI j) N 60 lt2 st2 (nI 0) (m (pl g o)) (nI 1000000000) hN (by omega)
          have ed : nI (10 * g + o) / nI 10 = nI g := by
            rw [pk_div (by omega) (by omega) (by omega), show (10 * g + o) / 10 = g by omega]
          have er : rem (nI (10 * g + o)) (nI 10) = nI o := by
            rw [show rem (nI (10 * g + o)) (nI 10) = nI ((10 * g + o) % 10) from pk_rem (by omega) (by omega) (by omega), show (10 * g + o) % 10 = o by omega]
          refine ⟨r, lt', st', .ref an, nI (10 * g + o), tn q, nI N, nI j, r2, lt2', st2', ?_, ?_, Or.inr rfl⟩
          · simp (disch := omega) only [f_X11_odds, b_X11_odds_0, f_X7_partsWarm, b_X7_partsWarm_0, hasMatter_y, unlike_c, ht, ed, er, warmthOf_c, e1, ob8_e, neg_nI, lit_nI, nI_add, pk_mul, pk_sub, nI_clamp, inB_nI, gd_true, bnd_def, nI_leI, nI_ltI, nI_eq, nI_mI, mI_nI, nle_T, nle_F, nlt_T, nlt_F, neq_T, neq_F, ↓reduceIte, Nat.add_zero, Nat.zero_add, Nat.mul_zero, Nat.reduceAdd, Nat.reduceMul, Nat.reduceSub, ob1_e, ob2_e, ob3_e, ob4_e, ob6_e]
          · simp (disch := omega) only [f_X12_odds, b_X12_odds_0, isMatter_y, areTwo_c, g1, g2, ht, in_c, pairAt_c, inB_pl, pl_clamp, e2, neg_nI, lit_nI, nI_add, pk_mul, pk_sub, nI_clamp, inB_nI, gd_true, bnd_def, nI_leI, nI_ltI, nI_eq, nI_mI, mI_nI, nle_T, nle_F, nlt_T, nlt_F, neq_T, neq_F, ↓reduceIte, Nat.add_zero, Nat.zero_add, Nat.mul_zero, Nat.reduceAdd, Nat.reduceMul, Nat.reduceSub, ob1_e, ob2_e, ob3_e, ob4_e, ob6_e]
        · refine ⟨mI 1, lt, st, qs, k1, k2, k3, k4, mI 1, lt2, st2, ?_, ?_, Or.inl rfl⟩
          · simp (disch := omega) only [f_X11_odds, b_X11_odds_0, hasMatter_y, unlike_c, ht, k0, neg_nI, lit_nI, nI_add, pk_mul, pk_sub, nI_clamp, inB_nI, gd_true, bnd_def, nI_leI, nI_ltI, nI_eq, nI_mI, mI_nI, nle_T, nle_F, nlt_T, nlt_F, neq_T, neq_F, ↓reduceIte, Nat.add_zero, Nat.zero_add, Nat.mul_zero, Nat.reduceAdd, Nat.reduceMul, Nat.reduceSub, ob1_e, ob2_e, ob3_e, ob4_e, ob6_e]
          · simp (disch := omega) only [f_X12_odds, b_X12_odds_0, isMatter_y, areTwo_c, g1, g2, ht, in_c, in_lo (hi := nI 100) k0, neg_nI, lit_nI, nI_add, pk_mul, pk_sub, nI_clamp, inB_nI, gd_true, bnd_def, nI_leI, nI_ltI, nI_eq, nI_mI, mI_nI, nle_T, nle_F, nlt_T, nlt_F, neq_T, neq_F, ↓reduceIte, Nat.add_zero, Nat.zero_add, Nat.mul_zero, Nat.reduceAdd, Nat.reduceMul, Nat.reduceSub, ob1_e, ob2_e, ob3_e, ob4_e, ob6_e]
        · refine ⟨mI 1, lt, st, qs, k1, k2, k3, k4, mI 1, lt2, st2, ?_, ?_, Or.inl rfl⟩
          · simp (disch := omega) only [f_X11_odds, b_X11_odds_0, hasMatter_y, unlike_c, ht, k0, k2', neg_nI, lit_nI, nI_add, pk_mul, pk_sub, nI_clamp, inB_nI, gd_true, bnd_def, nI_leI, nI_ltI, nI_eq, nI_mI, mI_nI, nle_T, nle_F, nlt_T, nlt_F, neq_T, neq_F, ↓reduceIte, Nat.add_zero, Nat.zero_add, Nat.mul_zero, Nat.reduceAdd, Nat.reduceMul, Nat.reduceSub, ob1_e, ob2_e, ob3_e, ob4_e, ob6_e]
          · simp (disch := omega) only [f_X12_odds, b_X12_odds_0, isMatter_y, areTwo_c, g1, g2, ht, in_c, in_hi (lo := nI 0) k1', neg_nI, lit_nI, nI_add, pk_mul, pk_sub, nI_clamp, inB_nI, gd_true, bnd_def, nI_leI, nI_ltI, nI_eq, nI_mI, mI_nI, nle_T, nle_F, nlt_T, nlt_F, neq_T, neq_F, ↓reduceIte, Nat.add_zero, Nat.zero_add, Nat.mul_zero, Nat.reduceAdd, Nat.reduceMul, Nat.reduceSub, ob1_e, ob2_e, ob3_e, ob4_e, ob6_e]
      · refine ⟨mI 1, lt, st, qs, k1, k2, k3, k4, mI 1, lt2, st2, ?_, ?_, Or.inl rfl⟩
        · simp (disch := omega) only [f_X11_odds, b_X11_odds_0, hasMatter_y, unlike_c, ht, k0, neg_nI, lit_nI, nI_add, pk_mul, pk_sub, nI_clamp, inB_nI, gd_true, bnd_def, nI_leI, nI_ltI, nI_eq, nI_mI, mI_nI, nle_T, nle_F, nlt_T, nlt_F, neq_T, neq_F, ↓reduceIte, Nat.add_zero, Nat.zero_add, Nat.mul_zero, Nat.reduceAdd, Nat.reduceMul, Nat.reduceSub, ob1_e, ob2_e, ob3_e, ob4_e, ob6_e]
        · simp (disch := omega) only [f_X12_odds, b_X12_odds_0, isMatter_y, areTwo_c, g1, g2, ht, in_lo (hi := nI 8) k0, neg_nI, lit_nI, nI_add, pk_mul, pk_sub, nI_clamp, inB_nI, gd_true, bnd_def, nI_leI, nI_ltI, nI_eq, nI_mI, mI_nI, nle_T, nle_F, nlt_T, nlt_F, neq_T, neq_F, ↓reduceIte, Nat.add_zero, Nat.zero_add, Nat.mul_zero, Nat.reduceAdd, Nat.reduceMul, Nat.reduceSub, ob1_e, ob2_e, ob3_e, ob4_e, ob6_e]
      · refine ⟨mI 1, lt, st, qs, k1, k2, k3, k4, mI 1, lt2, st2, ?_, ?_, Or.inl rfl⟩
        · simp (disch := omega) only [f_X11_odds, b_X11_odds_0, hasMatter_y, unlike_c, ht, k0, k1', neg_nI, lit_nI, nI_add, pk_mul, pk_sub, nI_clamp, inB_nI, gd_true, bnd_def, nI_leI, nI_ltI, nI_eq, nI_mI, mI_nI, nle_T, nle_F, nlt_T, nlt_F, neq_T, neq_F, ↓reduceIte, Nat.add_zero, Nat.zero_add, Nat.mul_zero, Nat.reduceAdd, Nat.reduceMul, Nat.reduceSub, ob1_e, ob2_e, ob3_e, ob4_e, ob6_e]
        · simp (disch := omega) only [f_X12_odds, b_X12_odds_0, isMatter_y, areTwo_c, g1, g2, ht, in_hi (lo := nI 0) k1', neg_nI, lit_nI, nI_add, pk_mul, pk_sub, nI_clamp, inB_nI, gd_true, bnd_def, nI_leI, nI_ltI, nI_eq, nI_mI, mI_nI, nle_T, nle_F, nlt_T, nlt_F, neq_T, neq_F, ↓reduceIte, Nat.add_zero, Nat.zero_add, Nat.mul_zero, Nat.reduceAdd, Nat.reduceMul, Nat.reduceSub, ob1_e, ob2_e, ob3_e, ob4_e, ob6_e]
    · refine ⟨mI 1, lt, st, qs, k1, k2, k3, k4, mI 1, lt2, st2, ?_, ?_, Or.inl rfl⟩
      · simp (disch := omega) only [f_X11_odds, b_X11_odds_0, hasMatter_y, q1, neg_nI, lit_nI, nI_add, pk_mul, pk_sub, nI_clamp, inB_nI, gd_true, bnd_def, nI_leI, nI_ltI, nI_eq, nI_mI, mI_nI, nle_T, nle_F, nlt_T, nlt_F, neq_T, neq_F, ↓reduceIte, Nat.add_zero, Nat.zero_add, Nat.mul_zero, Nat.reduceAdd, Nat.reduceMul, Nat.reduceSub, ob1_e, ob2_e, ob3_e, ob4_e, ob6_e]
      · simp (disch := omega) only [f_X12_odds, b_X12_odds_0, isMatter_y, q2, neg_nI, lit_nI, nI_add, pk_mul, pk_sub, nI_clamp, inB_nI, gd_true, bnd_def, nI_leI, nI_ltI, nI_eq, nI_mI, mI_nI, nle_T, nle_F, nlt_T, nlt_F, neq_T, neq_F, ↓reduceIte, Nat.add_zero, Nat.zero_add, Nat.mul_zero, Nat.reduceAdd, Nat.reduceMul, Nat.reduceSub, ob1_e, ob2_e, ob3_e, ob4_e, ob6_e]
  · refine ⟨mI 1, lt, st, qs, k1, k2, k3, k4, mI 1, lt2, st2, ?_, ?_, Or.inl rfl⟩
    · simp (disch := omega) only [f_X11_odds, b_X11_odds_0, q1, neg_nI, lit_nI, nI_add, pk_mul, pk_sub, nI_clamp, inB_nI, gd_true, bnd_def, nI_leI, nI_ltI, nI_eq, nI_mI, mI_nI, nle_T, nle_F, nlt_T, nlt_F, neq_T, neq_F, ↓reduceIte, Nat.add_zero, Nat.zero_add, Nat.mul_zero, Nat.reduceAdd, Nat.reduceMul, Nat.reduceSub, ob1_e, ob2_e, ob3_e, ob4_e, ob6_e]
    · simp (disch := omega) only [f_X12_odds, b_X12_odds_0, q2, neg_nI, lit_nI, nI_add, pk_mul, pk_sub, nI_clamp, inB_nI, gd_true, bnd_def, nI_leI, nI_ltI, nI_eq, nI_mI, mI_nI, nle_T, nle_F, nlt_T, nlt_F, neq_T, neq_F, ↓reduceIte, Nat.add_zero, Nat.zero_add, Nat.mul_zero, Nat.reduceAdd, Nat.reduceMul, Nat.reduceSub, ob1_e, ob2_e, ob3_e, ob4_e, ob6_e]
end OD
