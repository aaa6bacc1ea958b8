/-! years by draws -/
def dwx (x : Int64) : Int64 := x * (6364136223846793005 : Int64) + (1442695040888963407 : Int64)
def dwv (x : Int64) (j : Nat) : Int32 := (remL (ushrL (dwx x) (33 : Int32)) (nI j).toInt64).toInt32
theorem nzL_c : ∀ j, j < 11 → 0 < j → nzL (nI j).toInt64 = true := by decide +kernel
theorem drawX_c {x : Int64} {j : Nat} (h : 0 < j ∧ j < 11) : f_X11_draw x (nI j) = some (dwv x j, dwx x) := by
  have e1 : ((1 : Int32) ≤ nI j) = True := eq_true (nI_le (a := 1) (b := j) (by omega) (by omega))
  unfold f_X11_draw b_X11_draw_0
  rw [bnd_def]
  simp only [e1, if_true, nzL_c j h.2 h.1, gd_true, bnd_def]
  rfl
theorem drawY_c {x : Int64} {j : Nat} (h : 0 < j ∧ j < 11) : f_X12_draw x (nI j) = some (dwv x j, dwx x) := by
  unfold f_X12_draw b_X12_draw_0
  rw [bnd_def]
  simp only [nzL_c j h.2 h.1, gd_true, bnd_def]
  rfl
section YE
variable {R : R6} {lh : Int32} {ll l0 l1 l2 l3 : Nat → Int32} {mh : Int32} {mc mv mk mt ms mu : Nat → Int32}
variable {G M : Nat} {th ta tn mg mm : Nat → Int32} {sp : Int32}
theorem dmeet_l (hX : RiseX R lh ll l0 l1 l2 l3) (hY : RiseY R mh mc mv mk mt ms mu) (hG : G ≤ 6) (hG0 : 0 < G) (hM : M ≤ 5) (hh : ∀ g, g < G → mg (4 * g) = th g) (ha : ∀ g, g < G → mg (4 * g + 3) = ta g) (hn : ∀ k, k < M → mm (2 * k + 1) = tn k) {c m : Nat → Int32} (hN : RN G M c m) (hI : IV G th c) (x : Int64) (lt st lt2 st2 : Nat → Int32) (n k : Nat) (hk : k < 2) : ∃ x' lt' st' c' lt2' st2' m', f_X11_drawMeeting (nI G) (nI M) th ta tn lh ll l0 l1 l2 l3 x lt st c = some (x', lt', st', c') ∧ f_X12_drawDay_2 (nI G) (nI M) mh sp mc mv mk mt ms mu mg mm (n + 1) x lt2 st2 m (nI k) = f_X12_drawDay_2 (nI G) (nI M) mh sp mc mv mk mt ms mu mg mm n x' lt2' st2' m' (nI (k + 1)) ∧ RN G M c' m' ∧ IV G th c' ∧ (∀ i, 66 ≤ i → c' i = c i) ∧ (∀ i, 66 ≤ i → m' i = m i) := by
  rcases two_or (dwv x G) (dwv (dwx x) G) (th := th) (mg := mg) hG hh with ⟨g, o, hg, ho, eg, eo, ht⟩ | ⟨q1, q2⟩
  · have g1 := hh g hg
    have g2 := hh o ho
    have m1 : m (54 + g) = c (54 + g) := hN (54 + g) (by omega)
    have m2 : m (54 + o) = c (54 + o) := hN (54 + o) (by omega)
    by_cases f1 : c (54 + g) = mI 1
    · by_cases f2 : c (54 + o) = mI 1
      · obtain ⟨lt', st', c', lt2', st2', m', e1, e2, e3, e4, e5, e6⟩ := meet_l hX hY hG hM ha hn hN hI hg ho ht lt st lt2 st2
        refine ⟨dwx (dwx x), lt', st', c', lt2', st2', m', ?_, ?_, e3, e4, fun i hi => e5 i (by omega), e6⟩
        · simp (disch := omega) only [f_X11_drawMeeting, b_X11_drawMeeting_0, drawX_c, eg, eo, unlike_c, ht, hasMet_c, f1, f2, e1, neg_nI, lit_nI, nI_add, pk_mul, pk_sub, nI_clamp, inB_nI, gd_true, bnd_def, nI_leI, nI_ltI, nI_eq, nI_mI, mI_nI, nle_T, nle_F, nlt_T, nlt_F, neq_T, neq_F, ↓reduceIte, Nat.add_zero, Nat.zero_add, Nat.mul_zero, Nat.reduceAdd, Nat.reduceMul, Nat.reduceSub, ob1_e, ob2_e, ob3_e, ob4_e, ob6_e]
        · simp (disch := omega) only [f_X12_drawDay_2, f_X12_drawDay, b_X12_drawDay_56, b_X12_drawDay_2, b_X12_drawDay_0, drawY_c, eg, eo, areTwo_c, g1, g2, ht, isFree_c, m1, m2, f1, f2, e2, neg_nI, lit_nI, nI_add, pk_mul, pk_sub, nI_clamp, inB_nI, gd_true, bnd_def, nI_leI, nI_ltI, nI_eq, nI_mI, mI_nI, nle_T, nle_F, nlt_T, nlt_F, neq_T, neq_F, ↓reduceIte, Nat.add_zero, Nat.zero_add, Nat.mul_zero, Nat.reduceAdd, Nat.reduceMul, Nat.reduceSub, ob1_e, ob2_e, ob3_e, ob4_e, ob6_e]
      · refine ⟨dwx (dwx x), lt, st, c, lt2, st2, m, ?_, ?_, hN, hI, fun _ _ => rfl, fun _ _ => rfl⟩
        · simp (disch := omega) only [f_X11_drawMeeting, b_X11_drawMeeting_0, drawX_c, eg, eo, unlike_c, ht, hasMet_c, f1, f2, neg_nI, lit_nI, nI_add, pk_mul, pk_sub, nI_clamp, inB_nI, gd_true, bnd_def, nI_leI, nI_ltI, nI_eq, nI_mI, mI_nI, nle_T, nle_F, nlt_T, nlt_F, neq_T, neq_F, ↓reduceIte, Nat.add_zero, Nat.zero_add, Nat.mul_zero, Nat.reduceAdd, Nat.reduceMul, Nat.reduceSub, ob1_e, ob2_e, ob3_e, ob4_e, ob6_e]
        · simp (disch := omega) only [f_X12_drawDay_2, f_X12_drawDay, b_X12_drawDay_56, b_X12_drawDay_2, b_X12_drawDay_0, drawY_c, eg, eo, areTwo_c, g1, g2, ht, isFree_c, m1, m2, f1, f2, neg_nI, lit_nI, nI_add, pk_mul, pk_sub, nI_clamp, inB_nI, gd_true, bnd_def, nI_leI, nI_ltI, nI_eq, nI_mI, mI_nI, nle_T, nle_F, nlt_T, nlt_F, neq_T, neq_F, ↓reduceIte, Nat.add_zero, Nat.zero_add, Nat.mul_zero, Nat.reduceAdd, Nat.reduceMul, Nat.reduceSub, ob1_e, ob2_e, ob3_e, ob4_e, ob6_e]
    · refine ⟨dwx (dwx x), lt, st, c, lt2, st2, m, ?_, ?_, hN, hI, fun _ _ => rfl, fun _ _ => rfl⟩
      · simp (disch := omega) only [f_X11_drawMeeting, b_X11_drawMeeting_0, drawX_c, eg, eo, unlike_c, ht, hasMet_c, f1, neg_nI, lit_nI, nI_add, pk_mul, pk_sub, nI_clamp, inB_nI, gd_true, bnd_def, nI_leI, nI_ltI, nI_eq, nI_mI, mI_nI, nle_T, nle_F, nlt_T, nlt_F, neq_T, neq_F, ↓reduceIte, Nat.add_zero, Nat.zero_add, Nat.mul_zero, Nat.reduceAdd, Nat.reduceMul, Nat.reduceSub, ob1_e, ob2_e, ob3_e, ob4_e, ob6_e]
      · simp (disch := omega) only [f_X12_drawDay_2, f_X12_drawDay, b_X12_drawDay_56, b_X12_drawDay_2, b_X12_drawDay_0, drawY_c, eg, eo, areTwo_c, g1, g2, ht, isFree_c, m1, f1, neg_nI, lit_nI, nI_add, pk_mul, pk_sub, nI_clamp, inB_nI, gd_true, bnd_def, nI_leI, nI_ltI, nI_eq, nI_mI, mI_nI, nle_T, nle_F, nlt_T, nlt_F, neq_T, neq_F, ↓reduceIte, Nat.add_zero, Nat.zero_add, Nat.mul_zero, Nat.reduceAdd, Nat.reduceMul, Nat.reduceSub, ob1_e, ob2_e, ob3_e, ob4_e, ob6_e]
  · refine ⟨dwx (dwx x), lt, st, c, lt2, st2, m, ?_, ?_, hN, hI, fun _ _ => rfl, fun _ _ => rfl⟩
    · simp (disch := omega) only [f_X11_drawMeeting, b_X11_drawMeeting_0, drawX_c, q1, neg_nI, lit_nI, nI_add, pk_mul, pk_sub, nI_clamp, inB_nI, gd_true, bnd_def, nI_leI, nI_ltI, nI_eq, nI_mI, mI_nI, nle_T, nle_F, nlt_T, nlt_F, neq_T, neq_F, ↓reduceIte, Nat.add_zero, Nat.zero_add, Nat.mul_zero, Nat.reduceAdd, Nat.reduceMul, Nat.reduceSub, ob1_e, ob2_e, ob3_e, ob4_e, ob6_e]
    · simp (disch := omega) only [f_X12_drawDay_2, f_X12_drawDay, b_X12_drawDay_56, b_X12_drawDay_2, b_X12_drawDay_0, drawY_c, q2, neg_nI, lit_nI, nI_add, pk_mul, pk_sub, nI_clamp, inB_nI, gd_true, bnd_def, nI_leI, nI_ltI, nI_eq, nI_mI, mI_nI, nle_T, nle_F, nlt_T, nlt_F, neq_T, neq_F, ↓reduceIte, Nat.add_zero, Nat.zero_add, Nat.mul_zero, Nat.reduceAdd, Nat.reduceMul, Nat.reduceSub, ob1_e, ob2_e, ob3_e, ob4_e, ob6_e]
theorem years_l {N : Nat} (hX : RiseX R lh ll l0 l1 l2 l3) (hY : RiseY R mh mc mv mk mt ms mu) (hG : G ≤ 6) (hG0 : 0 < G) (hM : M ≤ 5) (hh : ∀ g, g < G → mg (4 * g) = th g) (ha : ∀ g, g < G → mg (4 * g + 3) = ta g) (hn : ∀ k, k < M → mm (2 * k + 1) = tn k) (hN6 : N ≤ 60) : ∀ (j k n n' : Nat) (x : Int64) (lt st lt2 st2 c bk : Nat → Int32) (s nx : Nat) (rows m kept : Nat → Int32) (d : Nat) (dd : Nat → Nat), k + j = N → j < n → j < n' → RC G M th bk d c m → RA G M th bk s nx rows kept dd → dd s = d → d + j ≤ 999 → ∃ x' lt' st' c' bk' s' nx' rows' y' lt2' st2' m' kept' dd', f_X11_years_43 sp (nI G) (nI M) th ta tn lh ll l0 l1 l2 l3 n x lt st c bk (nI s) (nI nx) rows (nI N) (nI k) = some (nI (d + j), x', lt', st', c', bk', nI s', nI nx', rows') ∧ f_X12_years_25 (nI G) (nI M) mh sp mc mv mk mt ms mu mg mm n' (nI s) x lt2 st2 m kept (nI N) (nI k) = some (nI (d + j), nI s', y', lt2', st2', m', kept') ∧ RC G M th bk' (d + j) c' m' ∧ RA G M th bk' s' nx' rows' kept' dd' ∧ dd' s' = d + j := by
  intro j
  induction j with
  | zero =>
    intro k n n' x lt st lt2 st2 c bk s nx rows m kept d dd hk h1 h2 hC hA hd h9
    obtain ⟨n, rfl⟩ : ∃ q, n = q + 1 := ⟨n - 1, by omega⟩
    obtain ⟨n', rfl⟩ : ∃ q, n' = q + 1 := ⟨n' - 1, by omega⟩
    have e1 : c 68 = nI d := hC.2.2.1.1
    have e2 : m 68 = nI d := by rw [hC.1 68 (by omega)]; exact e1
    refine ⟨x, lt, st, c, bk, s, nx, rows, x, lt2, st2, m, kept, dd, ?_, ?_, hC, hA, hd⟩
    · simp (disch := omega) only [f_X11_years_43, b_X11_years_43, day_c, e1, neg_nI, lit_nI, nI_add, pk_mul, pk_sub, nI_clamp, inB_nI, gd_true, bnd_def, nI_leI, nI_ltI, nI_eq, nI_mI, mI_nI, nle_T, nle_F, nlt_T, nlt_F, neq_T, neq_F, ↓reduceIte, Nat.add_zero, Nat.zero_add, Nat.mul_zero, Nat.reduceAdd, Nat.reduceMul, Nat.reduceSub, ob1_e, ob2_e, ob3_e, ob4_e, ob6_e]
    · simp (disch := omega) only [f_X12_years_25, b_X12_years_25, e2, neg_nI, lit_nI, nI_add, pk_mul, pk_sub, nI_clamp, inB_nI, gd_true, bnd_def, nI_leI, nI_ltI, nI_eq, nI_mI, mI_nI, nle_T, nle_F, nlt_T, nlt_F, neq_T, neq_F, ↓reduceIte, Nat.add_zero, Nat.zero_add, Nat.mul_zero, Nat.reduceAdd, Nat.reduceMul, Nat.reduceSub, ob1_e, ob2_e, ob3_e, ob4_e, ob6_e]
  | succ j ih =>
    intro k n n' x lt st lt2 st2 c bk s nx rows m kept d dd hk h1 h2 hC hA hd h9
    obtain ⟨n, rfl⟩ : ∃ q, n = q + 1 := ⟨n - 1, by omega⟩
    obtain ⟨n', rfl⟩ : ∃ q, n' = q + 1 := ⟨n' - 1, by omega⟩
    obtain ⟨fu2, hfu⟩ : ∃ q, fu = q + 1 + 1 + 1 := ⟨fu - 3, by have := fu_le; omega⟩
    obtain ⟨s1, nx1, rows1, kept1, dd1, k1, k2, k3, k4, k5, k6⟩ := keep_l hG hM hA hd hC
    obtain ⟨xa, lta, sta, ca, lt2a, st2a, ma, a1, a2, a3, a4, a5, a6⟩ := dmeet_l (sp := sp) hX hY hG hG0 hM hh ha hn hC.1 hC.2.1 x lt st lt2 st2 (fu2 + 1 + 1) 0 (by omega)
    obtain ⟨xb, ltb, stb, cb, lt2b, st2b, mb, b1, b2, b3, b4, b5, b6⟩ := dmeet_l (sp := sp) hX hY hG hG0 hM hh ha hn a3 a4 xa lta sta lt2a st2a (fu2 + 1) 1 (by omega)
    have hmb : mb 66 = cb 66 := b3 66 (by omega)
    -- behind the draw of spite: the same cells but for pride
    obtain ⟨cc, mcc, g1, g2, g3, g4, g5, g6⟩ : ∃ cc mcc, (if sp ≤ dwv xb 10 then some cb else f_X9_growProud cb) = some cc ∧ f_X12_drawDay_2 (nI G) (nI M) mh sp mc mv mk mt ms mu mg mm (fu2 + 1) xb lt2b st2b mb (nI 2) = some (dwx xb, lt2b, st2b, mcc) ∧ RN G M cc mcc ∧ IV G th cc ∧ cc 68 = c 68 ∧ (∀ i, 69 ≤ i → mcc i = m i) := by
      by_cases hs : sp ≤ dwv xb 10
      · refine ⟨cb, mb, if_pos hs, ?_, b3, b4, by rw [b5 68 (by omega), a5 68 (by omega)], fun i hi => by rw [b6 i (by omega), a6 i (by omega)]⟩
        simp (disch := omega) only [f_X12_drawDay_2, f_X12_drawDay, b_X12_drawDay_56, b_X12_drawDay_2, b_X12_drawDay_0, drawY_c, hs, neg_nI, lit_nI, nI_add, pk_mul, pk_sub, nI_clamp, inB_nI, gd_true, bnd_def, nI_leI, nI_ltI, nI_eq, nI_mI, mI_nI, nle_T, nle_F, nlt_T, nlt_F, neq_T, neq_F, ↓reduceIte, Nat.add_zero, Nat.zero_add, Nat.mul_zero, Nat.reduceAdd, Nat.reduceMul, Nat.reduceSub, ob1_e, ob2_e, ob3_e, ob4_e, ob6_e]
      · refine ⟨upd cb 66 (mn (nI 9) (cb 66 + nI 1)), upd mb 66 (mn (nI 9) (cb 66 + nI 1)), ?_, ?_, b3.put _ _, b4.cong hG fun i hi => by rw [upd_n (by omega)], by rw [upd_n (by omega), b5 68 (by omega), a5 68 (by omega)], fun i hi => by rw [upd_n (by omega), b6 i (by omega), a6 i (by omega)]⟩
        · rw [if_neg hs]
          simp (disch := omega) only [f_X9_growProud, b_X9_growProud_0, neg_nI, lit_nI, nI_add, pk_mul, pk_sub, nI_clamp, inB_nI, gd_true, bnd_def, nI_leI, nI_ltI, nI_eq, nI_mI, mI_nI, nle_T, nle_F, nlt_T, nlt_F, neq_T, neq_F, ↓reduceIte, Nat.add_zero, Nat.zero_add, Nat.mul_zero, Nat.reduceAdd, Nat.reduceMul, Nat.reduceSub, ob1_e, ob2_e, ob3_e, ob4_e, ob6_e]
        · simp (disch := omega) only [f_X12_drawDay_2, f_X12_drawDay, b_X12_drawDay_56, b_X12_drawDay_2, b_X12_drawDay_0, drawY_c, hs, hmb, neg_nI, lit_nI, nI_add, pk_mul, pk_sub, nI_clamp, inB_nI, gd_true, bnd_def, nI_leI, nI_ltI, nI_eq, nI_mI, mI_nI, nle_T, nle_F, nlt_T, nlt_F, neq_T, neq_F, ↓reduceIte, Nat.add_zero, Nat.zero_add, Nat.mul_zero, Nat.reduceAdd, Nat.reduceMul, Nat.reduceSub, ob1_e, ob2_e, ob3_e, ob4_e, ob6_e]
    have hC2 : RC G M th bk d cc mcc := hC.act g3 g4 g5 g6
    obtain ⟨c2, bk2, m2, p1, p2, p3, p4⟩ := pass_l hG hM hh hC2 (by omega)
    have hA2 := (k3.pass k4 p4).next k5 k6 (show d ≤ d + 1 by omega) (by omega)
    obtain ⟨x', lt', st', c', bk', s', nx', rows', y', lt2', st2', m', kept', dd', r1, r2, r3, r4, r5⟩ := ih (k + 1) n n' (dwx xb) ltb stb lt2b st2b c2 bk2 s1 nx1 rows1 m2 kept1 (d + 1) _ (by omega) (by omega) (by omega) p3 hA2 (by show (if s1 = s1 then d + 1 else dd1 s1) = d + 1; rw [if_pos rfl]) (by omega)
    rw [show d + 1 + j = d + (j + 1) by omega] at r1 r2 r3 r5
    refine ⟨x', lt', st', c', bk', s', nx', rows', y', lt2', st2', m', kept', dd', ?_, ?_, r3, r4, r5⟩
    · rw [← r1]
      by_cases hs : sp ≤ dwv xb 10
      · rw [if_pos hs] at g1
        cases g1
        simp (disch := omega) only [f_X11_years_43, f_X11_years, b_X11_years_88, b_X11_years_43, b_X11_years_0, k1, a1, b1, drawX_c, hs, p1, neg_nI, lit_nI, nI_add, pk_mul, pk_sub, nI_clamp, inB_nI, gd_true, bnd_def, nI_leI, nI_ltI, nI_eq, nI_mI, mI_nI, nle_T, nle_F, nlt_T, nlt_F, neq_T, neq_F, ↓reduceIte, Nat.add_zero, Nat.zero_add, Nat.mul_zero, Nat.reduceAdd, Nat.reduceMul, Nat.reduceSub, ob1_e, ob2_e, ob3_e, ob4_e, ob6_e]
      · rw [if_neg hs] at g1
        simp (disch := omega) only [f_X11_years_43, f_X11_years, b_X11_years_88, b_X11_years_43, b_X11_years_0, k1, a1, b1, drawX_c, hs, g1, p1, neg_nI, lit_nI, nI_add, pk_mul, pk_sub, nI_clamp, inB_nI, gd_true, bnd_def, nI_leI, nI_ltI, nI_eq, nI_mI, mI_nI, nle_T, nle_F, nlt_T, nlt_F, neq_T, neq_F, ↓reduceIte, Nat.add_zero, Nat.zero_add, Nat.mul_zero, Nat.reduceAdd, Nat.reduceMul, Nat.reduceSub, ob1_e, ob2_e, ob3_e, ob4_e, ob6_e]
    · rw [← r2]
      have q : f_X12_drawDay (nI G) (nI M) mh sp mc mv mk mt ms mu mg mm x lt2 st2 m = some (dwx xb, lt2b, st2b, mcc) := by
        unfold f_X12_drawDay b_X12_drawDay_0
        rw [hfu]
        exact (a2.trans b2).trans g2
      simp (disch := omega) only [f_X12_years_25, b_X12_years_25, k2, q, p2, neg_nI, lit_nI, nI_add, pk_mul, pk_sub, nI_clamp, inB_nI, gd_true, bnd_def, nI_leI, nI_ltI, nI_eq, nI_mI, mI_nI, nle_T, nle_F, nlt_T, nlt_F, neq_T, neq_F, ↓reduceIte, Nat.add_zero, Nat.zero_add, Nat.mul_zero, Nat.reduceAdd, Nat.reduceMul, Nat.reduceSub, ob1_e, ob2_e, ob3_e, ob4_e, ob6_e]
theorem s_years {s nx : Nat} {bk rows kept c m rf mr : Nat → Int32} (hX : RiseX R lh ll l0 l1 l2 l3) (hY : RiseY R mh mc mv mk mt ms mu) (hG : G ≤ 6) (hM : M ≤ 5) (hh : ∀ g, g < G → mg (4 * g) = th g) (ha : ∀ g, g < G → mg (4 * g + 3) = ta g) (hn : ∀ k, k < M → mm (2 * k + 1) = tn k) (hD : RD G M th bk s nx rows kept c m rf mr) (xd yd : Int64) (lt st lt2 st2 : Nat → Int32) (v : Int32) (x : Int64) : ∃ r x' lt' st' c' bk' s' nx' rows' y' lt2' st2' m' kept', f_X11_years sp (nI G) (nI M) th ta tn lh ll l0 l1 l2 l3 xd lt st c bk (nI s) (nI nx) rows v x = some (r, x', lt', st', c', bk', nI s', nI nx', rows') ∧ f_X12_years (nI G) (nI M) mh sp mc mv mk mt ms mu mg mm (nI s) yd lt2 st2 m kept v x = some (r, nI s', y', lt2', st2', m', kept') ∧ RD G M th bk' s' nx' rows' kept' c' m' rf mr := by
  have hD0 := hD
  obtain ⟨d, dd, hC, hA, hd, hF⟩ := hD
  have e1 : c 68 = nI d := hC.2.2.1.1
  have e2 : m 68 = nI d := by rw [hC.1 68 (by omega)]; exact e1
  have hd9 : d ≤ 999 := hC.2.2.1.2
  by_cases g0 : G = 0
  · refine ⟨mI 1, xd, lt, st, c, bk, s, nx, rows, yd, lt2, st2, m, kept, ?_, ?_, hD0⟩
    · simp (disch := omega) only [f_X11_years, b_X11_years_88, b_X11_years_43, b_X11_years_0, noPeace_y g0, neg_nI, lit_nI, nI_add, pk_mul, pk_sub, nI_clamp, inB_nI, gd_true, bnd_def, nI_leI, nI_ltI, nI_eq, nI_mI, mI_nI, nle_T, nle_F, nlt_T, nlt_F, neq_T, neq_F, ↓reduceIte, Nat.add_zero, Nat.zero_add, Nat.mul_zero, Nat.reduceAdd, Nat.reduceMul, Nat.reduceSub, ob1_e, ob2_e, ob3_e, ob4_e, ob6_e]
    · simp (disch := omega) only [f_X12_years, b_X12_years_25, b_X12_years_0, neg_nI, lit_nI, nI_add, pk_mul, pk_sub, nI_clamp, inB_nI, gd_true, bnd_def, nI_leI, nI_ltI, nI_eq, nI_mI, mI_nI, nle_T, nle_F, nlt_T, nlt_F, neq_T, neq_F, ↓reduceIte, Nat.add_zero, Nat.zero_add, Nat.mul_zero, Nat.reduceAdd, Nat.reduceMul, Nat.reduceSub, ob1_e, ob2_e, ob3_e, ob4_e, ob6_e]
  · rcases rng v 60 (by omega) with ⟨j, hj, rfl⟩ | h0 | ⟨h0, h9, h9'⟩
    · by_cases j0 : j = 0
      · refine ⟨mI 1, xd, lt, st, c, bk, s, nx, rows, yd, lt2, st2, m, kept, ?_, ?_, hD0⟩
        · simp (disch := omega) only [f_X11_years, b_X11_years_88, b_X11_years_43, b_X11_years_0, noPeace_n, neg_nI, lit_nI, nI_add, pk_mul, pk_sub, nI_clamp, inB_nI, gd_true, bnd_def, nI_leI, nI_ltI, nI_eq, nI_mI, mI_nI, nle_T, nle_F, nlt_T, nlt_F, neq_T, neq_F, ↓reduceIte, Nat.add_zero, Nat.zero_add, Nat.mul_zero, Nat.reduceAdd, Nat.reduceMul, Nat.reduceSub, ob1_e, ob2_e, ob3_e, ob4_e, ob6_e]
        · simp (disch := omega) only [f_X12_years, b_X12_years_25, b_X12_years_0, f_X12_areDays, b_X12_areDays_0, in_lo (x := nI j) (lo := nI 1) (hi := nI 60) (nI_lt (by omega) (by omega)), neg_nI, lit_nI, nI_add, pk_mul, pk_sub, nI_clamp, inB_nI, gd_true, bnd_def, nI_leI, nI_ltI, nI_eq, nI_mI, mI_nI, nle_T, nle_F, nlt_T, nlt_F, neq_T, neq_F, ↓reduceIte, Nat.add_zero, Nat.zero_add, Nat.mul_zero, Nat.reduceAdd, Nat.reduceMul, Nat.reduceSub, ob1_e, ob2_e, ob3_e, ob4_e, ob6_e]
      · have i1 : f_X12_in (nI j) (nI 1) (nI 60) = some (nI 1) := in_y (nI_nlt (by omega) (by omega)) (nI_nlt (by omega) (by omega))
        by_cases h99 : d + j ≤ 999
        · obtain ⟨x', lt', st', c', bk', s', nx', rows', y', lt2', st2', m', kept', dd', r1, r2, r3, r4, r5⟩ := years_l (sp := sp) (N := j) hX hY hG (by omega) hM hh ha hn hj j 0 fu fu x lt st lt2 st2 c bk s nx rows m kept d dd (by omega) (by have := fu_le; omega) (by have := fu_le; omega) hC hA hd h99
          refine ⟨nI (d + j), x', lt', st', c', bk', s', nx', rows', y', lt2', st2', m', kept', ?_, ?_, d + j, dd', r3, r4, r5, hF⟩
          · rw [← r1]
            simp (disch := omega) only [f_X11_years, b_X11_years_88, b_X11_years_43, b_X11_years_0, noPeace_n, day_c, e1, neg_nI, lit_nI, nI_add, pk_mul, pk_sub, nI_clamp, inB_nI, gd_true, bnd_def, nI_leI, nI_ltI, nI_eq, nI_mI, mI_nI, nle_T, nle_F, nlt_T, nlt_F, neq_T, neq_F, ↓reduceIte, Nat.add_zero, Nat.zero_add, Nat.mul_zero, Nat.reduceAdd, Nat.reduceMul, Nat.reduceSub, ob1_e, ob2_e, ob3_e, ob4_e, ob6_e]
          · rw [← r2]
            simp (disch := omega) only [f_X12_years, b_X12_years_25, b_X12_years_0, f_X12_areDays, b_X12_areDays_0, i1, e2, neg_nI, lit_nI, nI_add, pk_mul, pk_sub, nI_clamp, inB_nI, gd_true, bnd_def, nI_leI, nI_ltI, nI_eq, nI_mI, mI_nI, nle_T, nle_F, nlt_T, nlt_F, neq_T, neq_F, ↓reduceIte, Nat.add_zero, Nat.zero_add, Nat.mul_zero, Nat.reduceAdd, Nat.reduceMul, Nat.reduceSub, ob1_e, ob2_e, ob3_e, ob4_e, ob6_e]
        · refine ⟨mI 1, xd, lt, st, c, bk, s, nx, rows, yd, lt2, st2, m, kept, ?_, ?_, hD0⟩
          · simp (disch := omega) only [f_X11_years, b_X11_years_88, b_X11_years_43, b_X11_years_0, noPeace_n, day_c, e1, neg_nI, lit_nI, nI_add, pk_mul, pk_sub, nI_clamp, inB_nI, gd_true, bnd_def, nI_leI, nI_ltI, nI_eq, nI_mI, mI_nI, nle_T, nle_F, nlt_T, nlt_F, neq_T, neq_F, ↓reduceIte, Nat.add_zero, Nat.zero_add, Nat.mul_zero, Nat.reduceAdd, Nat.reduceMul, Nat.reduceSub, ob1_e, ob2_e, ob3_e, ob4_e, ob6_e]
          · simp (disch := omega) only [f_X12_years, b_X12_years_25, b_X12_years_0, f_X12_areDays, b_X12_areDays_0, i1, e2, neg_nI, lit_nI, nI_add, pk_mul, pk_sub, nI_clamp, inB_nI, gd_true, bnd_def, nI_leI, nI_ltI, nI_eq, nI_mI, mI_nI, nle_T, nle_F, nlt_T, nlt_F, neq_T, neq_F, ↓reduceIte, Nat.add_zero, Nat.zero_add, Nat.mul_zero, Nat.reduceAdd, Nat.reduceMul, Nat.reduceSub, ob1_e, ob2_e, ob3_e, ob4_e, ob6_e]
    · have h1 : v < nI 1 := by
        rw [lt32] at h0 ⊢
        have a0 : (nI 0).toInt = 0 := by decide
        have a1 : (nI 1).toInt = 1 := by decide
        omega
      refine ⟨mI 1, xd, lt, st, c, bk, s, nx, rows, yd, lt2, st2, m, kept, ?_, ?_, hD0⟩
      · simp (disch := omega) only [f_X11_years, b_X11_years_88, b_X11_years_43, b_X11_years_0, noPeace_n, h1, neg_nI, lit_nI, nI_add, pk_mul, pk_sub, nI_clamp, inB_nI, gd_true, bnd_def, nI_leI, nI_ltI, nI_eq, nI_mI, mI_nI, nle_T, nle_F, nlt_T, nlt_F, neq_T, neq_F, ↓reduceIte, Nat.add_zero, Nat.zero_add, Nat.mul_zero, Nat.reduceAdd, Nat.reduceMul, Nat.reduceSub, ob1_e, ob2_e, ob3_e, ob4_e, ob6_e]
      · simp (disch := omega) only [f_X12_years, b_X12_years_25, b_X12_years_0, f_X12_areDays, b_X12_areDays_0, in_lo (hi := nI 60) h1, neg_nI, lit_nI, nI_add, pk_mul, pk_sub, nI_clamp, inB_nI, gd_true, bnd_def, nI_leI, nI_ltI, nI_eq, nI_mI, mI_nI, nle_T, nle_F, nlt_T, nlt_F, neq_T, neq_F, ↓reduceIte, Nat.add_zero, Nat.zero_add, Nat.mul_zero, Nat.reduceAdd, Nat.reduceMul, Nat.reduceSub, ob1_e, ob2_e, ob3_e, ob4_e, ob6_e]
    · have h1 : ¬ v < nI 1 := by
        rw [lt32] at h9 ⊢
        have a0 : (nI 60).toInt = 60 := by decide
        have a1 : (nI 1).toInt = 1 := by decide
        omega
      refine ⟨mI 1, xd, lt, st, c, bk, s, nx, rows, yd, lt2, st2, m, kept, ?_, ?_, hD0⟩
      · simp (disch := omega) only [f_X11_years, b_X11_years_88, b_X11_years_43, b_X11_years_0, noPeace_n, h1, h9, neg_nI, lit_nI, nI_add, pk_mul, pk_sub, nI_clamp, inB_nI, gd_true, bnd_def, nI_leI, nI_ltI, nI_eq, nI_mI, mI_nI, nle_T, nle_F, nlt_T, nlt_F, neq_T, neq_F, ↓reduceIte, Nat.add_zero, Nat.zero_add, Nat.mul_zero, Nat.reduceAdd, Nat.reduceMul, Nat.reduceSub, ob1_e, ob2_e, ob3_e, ob4_e, ob6_e]
      · simp (disch := omega) only [f_X12_years, b_X12_years_25, b_X12_years_0, f_X12_areDays, b_X12_areDays_0, in_hi (lo := nI 1) h9, neg_nI, lit_nI, nI_add, pk_mul, pk_sub, nI_clamp, inB_nI, gd_true, bnd_def, nI_leI, nI_ltI, nI_eq, nI_mI, mI_nI, nle_T, nle_F, nlt_T, nlt_F, neq_T, neq_F, ↓reduceIte, Nat.add_zero, Nat.zero_add, Nat.mul_zero, Nat.reduceAdd, Nat.reduceMul, Nat.reduceSub, ob1_e, ob2_e, ob3_e, ob4_e, ob6_e]
end YE
