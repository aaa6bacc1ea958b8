/-! sums by both -/
theorem ap3 {f : Tok → Int32} {r : Nat → Int32} {o o1 o2 : Nat} {A B : List Tok} {x : Tok} {v : Int32} (h1 : o1 = o + A.length) (h2 : o2 = o + A.length + B.length) (hv : v = f x) : upd (ap f (ap f r o A) o1 B) o2 v = ap f r o (A ++ (B ++ [x])) := by
  subst h1 h2 hv
  rw [← ap_app, ← ap_app]
  rfl
theorem ap2 {f : Tok → Int32} {r : Nat → Int32} {o o1 : Nat} {A : List Tok} {x : Tok} {v : Int32} (h1 : o1 = o + A.length) (hv : v = f x) : upd (ap f r o A) o1 v = ap f r o (A ++ [x]) := by
  subst h1 hv
  rw [← ap_app]
  rfl
theorem len3 {A B : List Tok} {x : Tok} : (A ++ (B ++ [x])).length = A.length + B.length + 1 := by
  simp only [List.length_append, List.length_singleton]; omega
theorem len2 {A : List Tok} {x : Tok} : (A ++ [x]).length = A.length + 1 := by
  simp only [List.length_append, List.length_singleton]
abbrev FX : Type := Int32 → (Nat → Int32) → (Nat → Int32) → Int32 → Int32 → (Nat → Int32) → Int32 → Option XT
abbrev FY : Type := Int32 → Int32 → (Nat → Int32) → Int32 → Int32 → Int32 → (Nat → Int32) → (Nat → Int32) → (Nat → Int32) → Option YT
def OKF (n : Nat) (t u llT : Nat → Int32) (fx : FX) (fy : FY) (dp hh B : Nat) : Prop := ∀ (a s s' tx : Nat) (lc code value codes : Nat → Int32), a ≤ n → s ≤ a → s' ≤ a → tx ≤ 4 → codes tx = nI s' → OUTL n tx dp s s' a hh B lc code value codes (fx (nI n) t llT (nI a) (nI s) lc (nI dp)) (fy (nI n) (nI tx) u (nI a) (mI 1) (nI dp) code value codes)
section SU
variable {n : Nat} {t u llT : Nat → Int32} {FA FS FT : FX} {GA GS GT : FY}
theorem atom_o (hn : n ≤ 240) (h : RT n t u) (tb : LT6 llT) {dp : Nat} (hd : dp ≤ 6) (hS : dp < 6 → OKF n t u llT FS GS (dp + 1) (2 * (6 - dp) + 1) (240 + 10 * (6 - dp))) : OKF n t u llT (g_X1_readsAtom FA FS FT) (g_X12_atom GA GS GT) dp (2 * (6 - dp) + 1) (240 + 10 * (6 - dp)) := by
  intro a s s' tx lc code value codes ha hs hs' htx hc
  obtain ⟨a1, c, s1, s2, s3, s4, s5, s6, s7⟩ := sg_c hn h ha
  have hb0 : ∀ (hx : g_X1_readsAtom FA FS FT (nI n) t llT (nI a) (nI s) lc (nI dp) = some (nI 0, nI a1, nI s, lc)) (p q : Int32) (hy : g_X12_atom GA GS GT (nI n) (nI tx) u (nI a) (mI 1) (nI dp) code value codes = some (p, nI a1, q, code, value, codes)), OUTL n tx dp s s' a (2 * (6 - dp) + 1) (240 + 10 * (6 - dp)) lc code value codes (g_X1_readsAtom FA FS FT (nI n) t llT (nI a) (nI s) lc (nI dp)) (g_X12_atom GA GS GT (nI n) (nI tx) u (nI a) (mI 1) (nI dp) code value codes) := fun hx p q hy => Or.inr ⟨a1, s', nI s, lc, p, q, code, value, codes, s2, hx, hy, hc, by omega, fun _ _ => ⟨rfl, rfl⟩, fun _ _ => rfl⟩
  rcases s7 with ⟨ec, en⟩ | ⟨b, b0, b1, b2, ec, hb, et, eu⟩
  · subst ec
    refine hb0 ?_ (nI a1) (nI dp) ?_
    · simp (disch := omega) only [g_X1_readsAtom, b_X1_readsAtom_0, s3, (lt_m tb).1, f_X10_number, b_X10_number_0, s5, neg_nI, lit_nI, nI_add, pk_mul, pk_sub, nI_clamp, inB_nI, gd_true, bnd_def, nI_leI, nI_ltI, nI_eq, nI_mI, mI_nI, nle_T, nle_F, nlt_T, nlt_F, neq_T, neq_F, ↓reduceIte, Nat.add_zero, Nat.zero_add, Nat.mul_zero, Nat.reduceAdd, Nat.reduceMul, Nat.reduceSub, ob1_e, ob2_e, ob3_e, ob4_e, ob6_e]
    · simp (disch := omega) only [g_X12_atom, b_X12_atom_0, s4, (lt_m tb).2, isDigit_m, bad_n, neg_nI, lit_nI, nI_add, pk_mul, pk_sub, nI_clamp, inB_nI, gd_true, bnd_def, nI_leI, nI_ltI, nI_eq, nI_mI, mI_nI, nle_T, nle_F, nlt_T, nlt_F, neq_T, neq_F, ↓reduceIte, Nat.add_zero, Nat.zero_add, Nat.mul_zero, Nat.reduceAdd, Nat.reduceMul, Nat.reduceSub, ob1_e, ob2_e, ob3_e, ob4_e, ob6_e]
  subst ec
  obtain ⟨r, l1, l2, l3⟩ := lt_c tb b1
  by_cases q : b = 91
  · subst q
    obtain ⟨rfl, _⟩ : r = mI 1 ∧ True := by
      rcases l3 with ⟨e, _⟩ | ⟨e, _⟩
      · exact ⟨e, trivial⟩
      · omega
    have d6 : f_X12_isDigit (nI 91) = some (nI 0) := isDigit_n b1 (by omega)
    rcases Nat.lt_or_ge dp 6 with q6 | q6
    · rcases hS q6 (a1 + 1) s s' tx lc code value codes (by omega) (by omega) (by omega) htx hc with ⟨L, a2, hh, g1, g2, g3, g4, g5, g6, g7⟩ | ⟨a2, c2, x1, x2, p, q, code2, value2, codes2, g1, g2, g3, g4, g5, g6, g7⟩
      · obtain ⟨a3, c3, r1, r2, r3, r4, r5, r6, r7⟩ := sg_c hn h g2
        by_cases e93 : c3 = nI 93
        · subst e93
          have ha3 : a3 < n := by
            rcases r7 with ⟨e, _⟩ | ⟨_, _, _, _, _, e, _⟩
            · exact absurd e (nI_nm (by omega))
            · exact e
          refine Or.inl ⟨L, a3 + 1, hh, by omega, by omega, by omega, g4, g5, ?_, ?_⟩
          · simp (disch := omega) only [g_X1_readsAtom, b_X1_readsAtom_0, s3, g6, f_X10_take, b_X10_take_0, r3, neg_nI, lit_nI, nI_add, pk_mul, pk_sub, nI_clamp, inB_nI, gd_true, bnd_def, nI_leI, nI_ltI, nI_eq, nI_mI, mI_nI, nle_T, nle_F, nlt_T, nlt_F, neq_T, neq_F, ↓reduceIte, Nat.add_zero, Nat.zero_add, Nat.mul_zero, Nat.reduceAdd, Nat.reduceMul, Nat.reduceSub, ob1_e, ob2_e, ob3_e, ob4_e, ob6_e]
          · simp (disch := omega) only [g_X12_atom, b_X12_atom_0, s4, d6, l2, f_X12_opens, b_X12_opens_0, b_X12_opens_13, g7, f_X12_closes, b_X12_closes_0, b_X12_closes_20, r4, Nat.add_sub_cancel, ob3_e, neg_nI, lit_nI, nI_add, pk_mul, pk_sub, nI_clamp, inB_nI, gd_true, bnd_def, nI_leI, nI_ltI, nI_eq, nI_mI, mI_nI, nle_T, nle_F, nlt_T, nlt_F, neq_T, neq_F, ↓reduceIte, Nat.add_zero, Nat.zero_add, Nat.mul_zero, Nat.reduceAdd, Nat.reduceMul, Nat.reduceSub, ob1_e, ob2_e, ob3_e, ob4_e, ob6_e]
        · refine Or.inr ⟨a3, s' + L.length, nI (s + L.length), ap cs lc s L, nI (a3 + 1), nI dp, ap tc code (520 * tx + s') L, ap tv value (520 * tx + s') L, upd codes tx (nI (s' + L.length)), r2, ?_, ?_, upd_y rfl, by omega, fun i hi => ⟨ap_out _ _ _ _ (by omega), ap_out _ _ _ _ (by omega)⟩, fun i hi => upd_n hi⟩
          · simp (disch := omega) only [g_X1_readsAtom, b_X1_readsAtom_0, s3, g6, f_X10_take, b_X10_take_0, r3, e93, neg_nI, lit_nI, nI_add, pk_mul, pk_sub, nI_clamp, inB_nI, gd_true, bnd_def, nI_leI, nI_ltI, nI_eq, nI_mI, mI_nI, nle_T, nle_F, nlt_T, nlt_F, neq_T, neq_F, ↓reduceIte, Nat.add_zero, Nat.zero_add, Nat.mul_zero, Nat.reduceAdd, Nat.reduceMul, Nat.reduceSub, ob1_e, ob2_e, ob3_e, ob4_e, ob6_e]
          · simp (disch := omega) only [g_X12_atom, b_X12_atom_0, s4, d6, l2, f_X12_opens, b_X12_opens_0, b_X12_opens_13, g7, f_X12_closes, b_X12_closes_0, b_X12_closes_20, r4, e93, bad_n, Nat.add_sub_cancel, ob3_e, neg_nI, lit_nI, nI_add, pk_mul, pk_sub, nI_clamp, inB_nI, gd_true, bnd_def, nI_leI, nI_ltI, nI_eq, nI_mI, mI_nI, nle_T, nle_F, nlt_T, nlt_F, neq_T, neq_F, ↓reduceIte, Nat.add_zero, Nat.zero_add, Nat.mul_zero, Nat.reduceAdd, Nat.reduceMul, Nat.reduceSub, ob1_e, ob2_e, ob3_e, ob4_e, ob6_e]
      · refine Or.inr ⟨a2, c2, x1, x2, p + nI 1, q - nI 1, code2, value2, codes2, g1, ?_, ?_, g4, by omega, g6, g7⟩
        · simp (disch := omega) only [g_X1_readsAtom, b_X1_readsAtom_0, s3, g2, neg_nI, lit_nI, nI_add, pk_mul, pk_sub, nI_clamp, inB_nI, gd_true, bnd_def, nI_leI, nI_ltI, nI_eq, nI_mI, mI_nI, nle_T, nle_F, nlt_T, nlt_F, neq_T, neq_F, ↓reduceIte, Nat.add_zero, Nat.zero_add, Nat.mul_zero, Nat.reduceAdd, Nat.reduceMul, Nat.reduceSub, ob1_e, ob2_e, ob3_e, ob4_e, ob6_e]
        · simp (disch := omega) only [g_X12_atom, b_X12_atom_0, s4, d6, l2, f_X12_opens, b_X12_opens_0, b_X12_opens_13, g3, f_X12_closes, b_X12_closes_0, b_X12_closes_20, ob3_e, neg_nI, lit_nI, nI_add, pk_mul, pk_sub, nI_clamp, inB_nI, gd_true, bnd_def, nI_leI, nI_ltI, nI_eq, nI_mI, mI_nI, nle_T, nle_F, nlt_T, nlt_F, neq_T, neq_F, ↓reduceIte, Nat.add_zero, Nat.zero_add, Nat.mul_zero, Nat.reduceAdd, Nat.reduceMul, Nat.reduceSub, ob1_e, ob2_e, ob3_e, ob4_e, ob6_e]
    · obtain rfl : dp = 6 := by omega
      refine hb0 ?_ (nI (a1 + 1)) (nI 7) ?_
      · simp (disch := omega) only [g_X1_readsAtom, b_X1_readsAtom_0, s3, neg_nI, lit_nI, nI_add, pk_mul, pk_sub, nI_clamp, inB_nI, gd_true, bnd_def, nI_leI, nI_ltI, nI_eq, nI_mI, mI_nI, nle_T, nle_F, nlt_T, nlt_F, neq_T, neq_F, ↓reduceIte, Nat.add_zero, Nat.zero_add, Nat.mul_zero, Nat.reduceAdd, Nat.reduceMul, Nat.reduceSub, ob1_e, ob2_e, ob3_e, ob4_e, ob6_e]
      · simp (disch := omega) only [g_X12_atom, b_X12_atom_0, s4, d6, l2, f_X12_opens, b_X12_opens_0, b_X12_opens_13, bad_n, ob3_e, neg_nI, lit_nI, nI_add, pk_mul, pk_sub, nI_clamp, inB_nI, gd_true, bnd_def, nI_leI, nI_ltI, nI_eq, nI_mI, mI_nI, nle_T, nle_F, nlt_T, nlt_F, neq_T, neq_F, ↓reduceIte, Nat.add_zero, Nat.zero_add, Nat.mul_zero, Nat.reduceAdd, Nat.reduceMul, Nat.reduceSub, ob1_e, ob2_e, ob3_e, ob4_e, ob6_e]
  rcases l3 with ⟨er, nl⟩ | ⟨b97, l, hl, er⟩
  · subst er
    rcases dg_c hn h s2 with ⟨d, hd'⟩ | ⟨d4, c5, d5, d6⟩
    · obtain ⟨d1, d2, d3, d4, d5, d6⟩ := hd'
      have ebd : nI b = nI (48 + d) := by rw [← et, d3]
      obtain rfl : b = 48 + d := nI_inj (by omega) (by omega) ebd
      obtain ⟨a2, g1, g2, ⟨v, g3, g4, g5⟩ | ⟨v, g4, g5⟩⟩ := num4 hn h s5 ⟨d1, d2, d3, d4, d5, d6⟩
      · refine Or.inl ⟨[(0, v)], a2, 1, by omega, g2, by show a + 1 ≤ a2; omega, Ex.num g3, by omega, ?_, ?_⟩
        · simp (disch := omega) only [g_X1_readsAtom, b_X1_readsAtom_0, s3, l1, g4, putX, neg_nI, lit_nI, nI_add, pk_mul, pk_sub, nI_clamp, inB_nI, gd_true, bnd_def, nI_leI, nI_ltI, nI_eq, nI_mI, mI_nI, nle_T, nle_F, nlt_T, nlt_F, neq_T, neq_F, ↓reduceIte, Nat.add_zero, Nat.zero_add, Nat.mul_zero, Nat.reduceAdd, Nat.reduceMul, Nat.reduceSub, ob1_e, ob2_e, ob3_e, ob4_e, ob6_e]
          rfl
        · simp (disch := omega) only [g_X12_atom, b_X12_atom_0, s4, d6, g5, putY htx (show s' < 520 by omega) hc, ob3_e, neg_nI, lit_nI, nI_add, pk_mul, pk_sub, nI_clamp, inB_nI, gd_true, bnd_def, nI_leI, nI_ltI, nI_eq, nI_mI, mI_nI, nle_T, nle_F, nlt_T, nlt_F, neq_T, neq_F, ↓reduceIte, Nat.add_zero, Nat.zero_add, Nat.mul_zero, Nat.reduceAdd, Nat.reduceMul, Nat.reduceSub, ob1_e, ob2_e, ob3_e, ob4_e, ob6_e]
          rfl
      · refine Or.inr ⟨a2, s' + 1, nI s, lc, nI a2, nI dp, upd code (520 * tx + s') (nI 0), upd value (520 * tx + s') v, upd codes tx (nI (s' + 1)), g2, ?_, ?_, upd_y rfl, by omega, fun i hi => ⟨upd_n (by omega), upd_n (by omega)⟩, fun i hi => upd_n hi⟩
        · simp (disch := omega) only [g_X1_readsAtom, b_X1_readsAtom_0, s3, l1, g4, neg_nI, lit_nI, nI_add, pk_mul, pk_sub, nI_clamp, inB_nI, gd_true, bnd_def, nI_leI, nI_ltI, nI_eq, nI_mI, mI_nI, nle_T, nle_F, nlt_T, nlt_F, neq_T, neq_F, ↓reduceIte, Nat.add_zero, Nat.zero_add, Nat.mul_zero, Nat.reduceAdd, Nat.reduceMul, Nat.reduceSub, ob1_e, ob2_e, ob3_e, ob4_e, ob6_e]
        · simp (disch := omega) only [g_X12_atom, b_X12_atom_0, s4, d6, g5, putY htx (show s' < 520 by omega) hc, ob3_e, neg_nI, lit_nI, nI_add, pk_mul, pk_sub, nI_clamp, inB_nI, gd_true, bnd_def, nI_leI, nI_ltI, nI_eq, nI_mI, mI_nI, nle_T, nle_F, nlt_T, nlt_F, neq_T, neq_F, ↓reduceIte, Nat.add_zero, Nat.zero_add, Nat.mul_zero, Nat.reduceAdd, Nat.reduceMul, Nat.reduceSub, ob1_e, ob2_e, ob3_e, ob4_e, ob6_e]
    · have ec : c5 = nI b := by
        have := here_in (u := u) (n := n) (a := a1) ⟨hb, hn⟩
        rw [d5, eu] at this
        exact Option.some.inj this
      rw [ec] at d6
      have en : f_X10_number (nI n) t (nI a1) (nI 4) = some (mI 1, nI a1) := by
        obtain ⟨k, ef⟩ : ∃ k, fu = k + 1 := ⟨fu - 1, by have := fu_le; omega⟩
        simp (disch := omega) only [f_X10_number, b_X10_number_0, s5, ef, f_X10_number_14, b_X10_number_14, d4, b_X10_number_60, b_X10_number_71, neg_nI, lit_nI, nI_add, pk_mul, pk_sub, nI_clamp, inB_nI, gd_true, bnd_def, nI_leI, nI_ltI, nI_eq, nI_mI, mI_nI, nle_T, nle_F, nlt_T, nlt_F, neq_T, neq_F, ↓reduceIte, Nat.add_zero, Nat.zero_add, Nat.mul_zero, Nat.reduceAdd, Nat.reduceMul, Nat.reduceSub, ob1_e, ob2_e, ob3_e, ob4_e, ob6_e]
      refine hb0 ?_ (nI a1) (nI dp) ?_
      · simp (disch := omega) only [g_X1_readsAtom, b_X1_readsAtom_0, s3, l1, en, neg_nI, lit_nI, nI_add, pk_mul, pk_sub, nI_clamp, inB_nI, gd_true, bnd_def, nI_leI, nI_ltI, nI_eq, nI_mI, mI_nI, nle_T, nle_F, nlt_T, nlt_F, neq_T, neq_F, ↓reduceIte, Nat.add_zero, Nat.zero_add, Nat.mul_zero, Nat.reduceAdd, Nat.reduceMul, Nat.reduceSub, ob1_e, ob2_e, ob3_e, ob4_e, ob6_e]
      · simp (disch := omega) only [g_X12_atom, b_X12_atom_0, s4, d6, l2, bad_n, neg_nI, lit_nI, nI_add, pk_mul, pk_sub, nI_clamp, inB_nI, gd_true, bnd_def, nI_leI, nI_ltI, nI_eq, nI_mI, mI_nI, nle_T, nle_F, nlt_T, nlt_F, neq_T, neq_F, ↓reduceIte, Nat.add_zero, Nat.zero_add, Nat.mul_zero, Nat.reduceAdd, Nat.reduceMul, Nat.reduceSub, ob1_e, ob2_e, ob3_e, ob4_e, ob6_e]
  · subst er
    have d6 : f_X12_isDigit (nI b) = some (nI 0) := isDigit_n b1 (by omega)
    refine Or.inl ⟨[(1, l)], a1 + 1, 1, by omega, by omega, by show a + 1 ≤ a1 + 1; omega, Ex.ltr hl, by omega, ?_, ?_⟩
    · have e14 : (-14 : Int32) - nI l = cs (1, l) := by
        have : ∀ l, l < 6 → (-14 : Int32) - nI l = cs (1, l) := by decide
        exact this l hl
      have eu : g_X1_readsAtom FA FS FT (nI n) t llT (nI a) (nI s) lc (nI dp) = ob3 (f_X1_put (nI s) lc ((-14 : Int32) - nI l)) fun r_14 lr_size_15 lr_code_16 => gd (isZ r_14) <| some (r_14, nI (a1 + 1), lr_size_15, lr_code_16) := by
        simp (disch := omega) only [g_X1_readsAtom, b_X1_readsAtom_0, s3, l1, neg_nI, lit_nI, nI_add, pk_mul, pk_sub, nI_clamp, inB_nI, gd_true, bnd_def, nI_leI, nI_ltI, nI_eq, nI_mI, mI_nI, nle_T, nle_F, nlt_T, nlt_F, neq_T, neq_F, ↓reduceIte, Nat.add_zero, Nat.zero_add, Nat.mul_zero, Nat.reduceAdd, Nat.reduceMul, Nat.reduceSub, ob1_e, ob2_e, ob3_e, ob4_e, ob6_e]
      rw [eu, putX (by omega), ob3_e, isZ_1, gd_true, e14]
      rfl
    · simp (disch := omega) only [g_X12_atom, b_X12_atom_0, s4, d6, l2, putY htx (show s' < 520 by omega) hc, ob3_e, neg_nI, lit_nI, nI_add, pk_mul, pk_sub, nI_clamp, inB_nI, gd_true, bnd_def, nI_leI, nI_ltI, nI_eq, nI_mI, mI_nI, nle_T, nle_F, nlt_T, nlt_F, neq_T, neq_F, ↓reduceIte, Nat.add_zero, Nat.zero_add, Nat.mul_zero, Nat.reduceAdd, Nat.reduceMul, Nat.reduceSub, ob1_e, ob2_e, ob3_e, ob4_e, ob6_e]
      rfl
theorem sum_l (hn : n ≤ 240) (h : RT n t u) {dp h0 B0 a0 s s' tx : Nat} {lc code value codes : Nat → Int32} (hI : OKF n t u llT FT GT dp h0 B0) (hB : B0 ≤ 400) (hB2 : 240 ≤ B0) (hd : dp ≤ 6) (hs : s ≤ a0) (hs' : s' ≤ a0) (htx : tx ≤ 4) (hc : codes tx = nI s') : ∀ (j a a1 v2 : Nat) (c : Int32) (A : List Tok) (hA : Nat), n < a + j → a0 < a → a0 + A.length ≤ a → v2 < a → Ex A hA → hA ≤ h0 + 1 → SG n t u a a1 c → ∀ kx ky, j ≤ kx → j < ky → OUTL n tx dp s s' a0 (h0 + 1) (B0 + 1) lc code value codes (f_X1_readsSum_12 FA FS FT (nI n) t llT kx (nI a) (nI (s + A.length)) (ap cs lc s A) (nI dp) (nI v2)) (f_X12_sum_21 GA GS GT (nI n) (nI tx) u ky (nI a1) (mI 1) (nI dp) (ap tc code (520 * tx + s') A) (ap tv value (520 * tx + s') A) (upd codes tx (nI (s' + A.length))) c)
  | 0, a, a1, v2, c, A, hA, hj, h1, h2, h3, h4, h5, hsg, kx, ky, hkx, hky => by have := hsg.1; have := hsg.2.1; omega
  | j + 1, a, a1, v2, c, A, hA, hj, h1, h2, h3, h4, h5, hsg, kx, ky, hkx, hky => by
    obtain ⟨kx, rfl⟩ : ∃ k, kx = k + 1 := ⟨kx - 1, by omega⟩
    obtain ⟨ky, rfl⟩ : ∃ k, ky = k + 1 + 1 := ⟨ky - 2, by omega⟩
    obtain ⟨s1, s2, s3, s4, s5, s6, s7⟩ := hsg
    have ux : ∀ x1 x2 x3 x4 x5, f_X1_readsSum_12 FA FS FT (nI n) t llT (kx + 1) x1 x2 x3 x4 x5 = b_X1_readsSum_12 FA FS FT (nI n) t llT (f_X1_readsSum_12 FA FS FT (nI n) t llT kx) x1 x2 x3 x4 x5 := fun _ _ _ _ _ => rfl
    have uy : ∀ k x1 x2 x3 x4 x5 x6 x7, f_X12_sum_21 GA GS GT (nI n) (nI tx) u (k + 1) x1 x2 x3 x4 x5 x6 x7 = b_X12_sum_21 GA GS GT (nI n) (nI tx) u (f_X12_sum_21 GA GS GT (nI n) (nI tx) u k) x1 x2 x3 x4 x5 x6 x7 := fun _ _ _ _ _ _ _ _ => rfl
    rcases s7 with ⟨ec, en⟩ | ⟨b, b0, b1, b2, ec, hb, et, eu⟩
    · subst ec
      refine Or.inl ⟨A, a1, hA, by omega, s2, by omega, h4, h5, ?_, ?_⟩
      · rw [ux]; simp (disch := omega) only [b_X1_readsSum_12, s3, neg_nI, lit_nI, nI_add, pk_mul, pk_sub, nI_clamp, inB_nI, gd_true, bnd_def, nI_leI, nI_ltI, nI_eq, nI_mI, mI_nI, nle_T, nle_F, nlt_T, nlt_F, neq_T, neq_F, ↓reduceIte, Nat.add_zero, Nat.zero_add, Nat.mul_zero, Nat.reduceAdd, Nat.reduceMul, Nat.reduceSub, ob1_e, ob2_e, ob3_e, ob4_e, ob6_e]
      · rw [uy]; simp (disch := omega) only [b_X12_sum_21, neg_nI, lit_nI, nI_add, pk_mul, pk_sub, nI_clamp, inB_nI, gd_true, bnd_def, nI_leI, nI_ltI, nI_eq, nI_mI, mI_nI, nle_T, nle_F, nlt_T, nlt_F, neq_T, neq_F, ↓reduceIte, Nat.add_zero, Nat.zero_add, Nat.mul_zero, Nat.reduceAdd, Nat.reduceMul, Nat.reduceSub, ob1_e, ob2_e, ob3_e, ob4_e, ob6_e]
    subst ec
    have hgo : ∀ k, 2 ≤ k ∧ k ≤ 5 → ∀ vx : Int32, vx = cs (k, 0) → ∀ (X : Option XT) (Y : Option YT),
        (X = ob4 (FT (nI n) t llT (nI (a1 + 1)) (nI (s + A.length)) (ap cs lc s A) (nI dp)) fun r_2 at3 s4' c5 => if r_2 = nI 0 then some (nI 0, at3, s4', c5) else b_X1_readsSum_76 FA FS FT (nI n) t llT (f_X1_readsSum_12 FA FS FT (nI n) t llT kx) at3 s4' c5 (nI dp) (nI v2) vx) →
        (Y = ob6 (GT (nI n) (nI tx) u (nI (a1 + 1)) (mI 1) (nI dp) (ap tc code (520 * tx + s') A) (ap tv value (520 * tx + s') A) (upd codes tx (nI (s' + A.length)))) fun p w q c2 v3 cc => b_X12_sum_59 GA GS GT (nI n) (nI tx) u (f_X12_sum_21 GA GS GT (nI n) (nI tx) u (ky + 1)) p w q c2 v3 cc (nI k)) →
        OUTL n tx dp s s' a0 (h0 + 1) (B0 + 1) lc code value codes X Y := by
      intro k hk vx hvx X Y hX hY
      rcases hI (a1 + 1) (s + A.length) (s' + A.length) tx (ap cs lc s A) (ap tc code (520 * tx + s') A) (ap tv value (520 * tx + s') A) (upd codes tx (nI (s' + A.length))) (by omega) (by omega) (by omega) htx (upd_y rfl) with ⟨L, a2, hh, g1, g2, g3, g4, g5, g6, g7⟩ | ⟨a2, c2, x1, x2, p, q, code2, value2, codes2, g1, g2, g3, g4, g5, g6, g7⟩
      · obtain ⟨a3, c3, hs3⟩ := sg_c hn h g2
        have e2 := ap3 (f := cs) (r := lc) (o := s) (o1 := s + A.length) (o2 := s + A.length + L.length) (A := A) (B := L) (x := (k, 0)) rfl rfl hvx
        have e3 := ap3 (f := tc) (r := code) (o := 520 * tx + s') (o1 := 520 * tx + (s' + A.length)) (o2 := 520 * tx + (s' + A.length + L.length)) (A := A) (B := L) (x := (k, 0)) (v := nI k) (by omega) (by omega) rfl
        have e4 := ap3 (f := tv) (r := value) (o := 520 * tx + s') (o1 := 520 * tx + (s' + A.length)) (o2 := 520 * tx + (s' + A.length + L.length)) (A := A) (B := L) (x := (k, 0)) (v := nI 0) (by omega) (by omega) rfl
        have hl := len3 (A := A) (B := L) (x := (k, 0))
        have ih := sum_l (lc := lc) (code := code) (value := value) (codes := codes) hn h hI hB hB2 hd hs hs' htx hc j a2 a3 (v2 + 1) c3 (A ++ (L ++ [(k, 0)])) (max hA (hh + 1)) (by omega) (by omega) (by omega) (by omega) (Ex.bin (by omega) h4 g4) (by omega) hs3 kx (ky + 1) (by omega) (by omega)
        rw [hl] at ih
        have ex : X = f_X1_readsSum_12 FA FS FT (nI n) t llT kx (nI a2) (nI (s + (A.length + L.length + 1))) (ap cs lc s (A ++ (L ++ [(k, 0)]))) (nI dp) (nI (v2 + 1)) := by
          rw [hX, g6, ob4_e, if_neg (by decide)]
          unfold b_X1_readsSum_76
          rw [putX (by omega), ob3_e, if_neg (by decide), e2]
          simp only [bnd_def, lit_nI, nI_add]
          rw [show s + A.length + L.length + 1 = s + (A.length + L.length + 1) by omega]
        have ey : Y = f_X12_sum_21 GA GS GT (nI n) (nI tx) u (ky + 1) (nI a3) (mI 1) (nI dp) (ap tc code (520 * tx + s') (A ++ (L ++ [(k, 0)]))) (ap tv value (520 * tx + s') (A ++ (L ++ [(k, 0)]))) (upd codes tx (nI (s' + (A.length + L.length + 1)))) c3 := by
          rw [hY, g7, ob6_e]
          unfold b_X12_sum_59 b_X12_sum_79
          rw [lit_nI, putY htx (show s' + A.length + L.length < 520 by omega) (upd_y rfl), ob3_e, if_pos (show mI 1 = (-1 : Int32) from rfl), hs3.2.2.2.1, ob2_e, e3, e4, upd_upd, upd_upd, show s' + A.length + L.length + 1 = s' + (A.length + L.length + 1) by omega]
        rw [ex, ey]
        exact ih
      · refine Or.inr ⟨a2, c2 + 1, x1, x2, p, q, upd code2 (520 * tx + c2) (nI k), upd value2 (520 * tx + c2) (nI 0), upd codes2 tx (nI (c2 + 1)), g1, ?_, ?_, upd_y rfl, by omega, fun i hi => ?_, fun i hi => ?_⟩
        · rw [hX, g2, ob4_e, if_pos rfl]
        · rw [hY, g3, ob6_e]
          unfold b_X12_sum_59 b_X12_sum_79
          rw [lit_nI, putY htx (show c2 < 520 by omega) g4, ob3_e, if_neg (show ¬ nI a2 = (-1 : Int32) from nI_nm (by omega)), uy]
          simp (disch := omega) only [b_X12_sum_21, neg_nI, lit_nI, nI_add, pk_mul, pk_sub, nI_clamp, inB_nI, gd_true, bnd_def, nI_leI, nI_ltI, nI_eq, nI_mI, mI_nI, nle_T, nle_F, nlt_T, nlt_F, neq_T, neq_F, ↓reduceIte, Nat.add_zero, Nat.zero_add, Nat.mul_zero, Nat.reduceAdd, Nat.reduceMul, Nat.reduceSub, ob1_e, ob2_e, ob3_e, ob4_e, ob6_e]
        · obtain ⟨w1, w2⟩ := g6 i hi
          have w3 : (i < 520 * tx + s' ∨ 520 * tx + s' + A.length ≤ i) := by omega
          rw [upd_n (by omega), upd_n (by omega), w1, w2, ap_out _ _ _ _ w3, ap_out _ _ _ _ w3]
          exact ⟨rfl, rfl⟩
        · rw [upd_n hi, g7 i hi, upd_n hi]
    by_cases q1 : b = 43
    · subst q1
      refine hgo 2 (by omega) (mI 2) (by decide) _ _ ?_ ?_
      · rw [ux]; simp (disch := omega) only [b_X1_readsSum_12, b_X1_readsSum_41, s3, neg_nI, lit_nI, nI_add, pk_mul, pk_sub, nI_clamp, inB_nI, gd_true, bnd_def, nI_leI, nI_ltI, nI_eq, nI_mI, mI_nI, nle_T, nle_F, nlt_T, nlt_F, neq_T, neq_F, ↓reduceIte, Nat.add_zero, Nat.zero_add, Nat.mul_zero, Nat.reduceAdd, Nat.reduceMul, Nat.reduceSub, ob1_e, ob2_e, ob3_e, ob4_e, ob6_e]
      · rw [uy]; simp (disch := omega) only [b_X12_sum_21, b_X12_sum_33, neg_nI, lit_nI, nI_add, pk_mul, pk_sub, nI_clamp, inB_nI, gd_true, bnd_def, nI_leI, nI_ltI, nI_eq, nI_mI, mI_nI, nle_T, nle_F, nlt_T, nlt_F, neq_T, neq_F, ↓reduceIte, Nat.add_zero, Nat.zero_add, Nat.mul_zero, Nat.reduceAdd, Nat.reduceMul, Nat.reduceSub, ob1_e, ob2_e, ob3_e, ob4_e, ob6_e]
    by_cases q2 : b = 45
    · subst q2
      refine hgo 3 (by omega) (mI 3) (by decide) _ _ ?_ ?_
      · rw [ux]; simp (disch := omega) only [b_X1_readsSum_12, b_X1_readsSum_41, s3, neg_nI, lit_nI, nI_add, pk_mul, pk_sub, nI_clamp, inB_nI, gd_true, bnd_def, nI_leI, nI_ltI, nI_eq, nI_mI, mI_nI, nle_T, nle_F, nlt_T, nlt_F, neq_T, neq_F, ↓reduceIte, Nat.add_zero, Nat.zero_add, Nat.mul_zero, Nat.reduceAdd, Nat.reduceMul, Nat.reduceSub, ob1_e, ob2_e, ob3_e, ob4_e, ob6_e]
      · rw [uy]; simp (disch := omega) only [b_X12_sum_21, b_X12_sum_33, neg_nI, lit_nI, nI_add, pk_mul, pk_sub, nI_clamp, inB_nI, gd_true, bnd_def, nI_leI, nI_ltI, nI_eq, nI_mI, mI_nI, nle_T, nle_F, nlt_T, nlt_F, neq_T, neq_F, ↓reduceIte, Nat.add_zero, Nat.zero_add, Nat.mul_zero, Nat.reduceAdd, Nat.reduceMul, Nat.reduceSub, ob1_e, ob2_e, ob3_e, ob4_e, ob6_e]
    · refine Or.inl ⟨A, a1, hA, by omega, s2, by omega, h4, h5, ?_, ?_⟩
      · rw [ux]; simp (disch := omega) only [b_X1_readsSum_12, s3, neg_nI, lit_nI, nI_add, pk_mul, pk_sub, nI_clamp, inB_nI, gd_true, bnd_def, nI_leI, nI_ltI, nI_eq, nI_mI, mI_nI, nle_T, nle_F, nlt_T, nlt_F, neq_T, neq_F, ↓reduceIte, Nat.add_zero, Nat.zero_add, Nat.mul_zero, Nat.reduceAdd, Nat.reduceMul, Nat.reduceSub, ob1_e, ob2_e, ob3_e, ob4_e, ob6_e]
      · rw [uy]; simp (disch := omega) only [b_X12_sum_21, neg_nI, lit_nI, nI_add, pk_mul, pk_sub, nI_clamp, inB_nI, gd_true, bnd_def, nI_leI, nI_ltI, nI_eq, nI_mI, mI_nI, nle_T, nle_F, nlt_T, nlt_F, neq_T, neq_F, ↓reduceIte, Nat.add_zero, Nat.zero_add, Nat.mul_zero, Nat.reduceAdd, Nat.reduceMul, Nat.reduceSub, ob1_e, ob2_e, ob3_e, ob4_e, ob6_e]
theorem sum_o (hn : n ≤ 240) (h : RT n t u) {dp h0 B0 : Nat} (hI : OKF n t u llT FT GT dp h0 B0) (hB : B0 ≤ 400) (hB2 : 240 ≤ B0) (hd : dp ≤ 6) : OKF n t u llT (g_X1_readsSum FA FS FT) (g_X12_sum GA GS GT) dp (h0 + 1) (B0 + 1) := by
  intro a s s' tx lc code value codes ha hs hs' htx hc
  have hf := fu_le
  rcases hI a s s' tx lc code value codes ha hs hs' htx hc with ⟨L, a2, hh, g1, g2, g3, g4, g5, g6, g7⟩ | ⟨a2, c2, x1, x2, p, q, code2, value2, codes2, g1, g2, g3, g4, g5, g6, g7⟩
  · obtain ⟨a3, c3, hs3⟩ := sg_c hn h g2
    have := sum_l (FA := FA) (FS := FS) (GA := GA) (GS := GS) (FT := FT) (GT := GT) (lc := lc) (code := code) (value := value) (codes := codes) hn h hI hB hB2 hd hs hs' htx hc (n + 1) a2 a3 0 c3 L hh (by omega) g1 g3 (by omega) g4 (by omega) hs3 fu fu (by omega) (by omega)
    have ex : g_X1_readsSum FA FS FT (nI n) t llT (nI a) (nI s) lc (nI dp) = f_X1_readsSum_12 FA FS FT (nI n) t llT fu (nI a2) (nI (s + L.length)) (ap cs lc s L) (nI dp) (nI 0) := by
      simp (disch := omega) only [g_X1_readsSum, b_X1_readsSum_0, g6, neg_nI, lit_nI, nI_add, pk_mul, pk_sub, nI_clamp, inB_nI, gd_true, bnd_def, nI_leI, nI_ltI, nI_eq, nI_mI, mI_nI, nle_T, nle_F, nlt_T, nlt_F, neq_T, neq_F, ↓reduceIte, Nat.add_zero, Nat.zero_add, Nat.mul_zero, Nat.reduceAdd, Nat.reduceMul, Nat.reduceSub, ob1_e, ob2_e, ob3_e, ob4_e, ob6_e]
    have ey : g_X12_sum GA GS GT (nI n) (nI tx) u (nI a) (mI 1) (nI dp) code value codes = f_X12_sum_21 GA GS GT (nI n) (nI tx) u fu (nI a3) (mI 1) (nI dp) (ap tc code (520 * tx + s') L) (ap tv value (520 * tx + s') L) (upd codes tx (nI (s' + L.length))) c3 := by
      simp (disch := omega) only [g_X12_sum, b_X12_sum_0, b_X12_sum_20, g7, hs3.2.2.2.1, neg_nI, lit_nI, nI_add, pk_mul, pk_sub, nI_clamp, inB_nI, gd_true, bnd_def, nI_leI, nI_ltI, nI_eq, nI_mI, mI_nI, nle_T, nle_F, nlt_T, nlt_F, neq_T, neq_F, ↓reduceIte, Nat.add_zero, Nat.zero_add, Nat.mul_zero, Nat.reduceAdd, Nat.reduceMul, Nat.reduceSub, ob1_e, ob2_e, ob3_e, ob4_e, ob6_e]
    rw [ex, ey]
    exact this
  · obtain ⟨k, ef⟩ : ∃ k, fu = k + 1 := ⟨fu - 1, by omega⟩
    refine Or.inr ⟨a2, c2, x1, x2, p, q, code2, value2, codes2, g1, ?_, ?_, g4, by omega, g6, g7⟩
    · simp (disch := omega) only [g_X1_readsSum, b_X1_readsSum_0, g2, neg_nI, lit_nI, nI_add, pk_mul, pk_sub, nI_clamp, inB_nI, gd_true, bnd_def, nI_leI, nI_ltI, nI_eq, nI_mI, mI_nI, nle_T, nle_F, nlt_T, nlt_F, neq_T, neq_F, ↓reduceIte, Nat.add_zero, Nat.zero_add, Nat.mul_zero, Nat.reduceAdd, Nat.reduceMul, Nat.reduceSub, ob1_e, ob2_e, ob3_e, ob4_e, ob6_e]
    · have e : ∀ k, f_X12_sum_21 GA GS GT (nI n) (nI tx) u (k + 1) p (nI a2) q code2 value2 codes2 (mI 1) = some (p, nI a2, q, code2, value2, codes2) := by
        intro k
        rw [show ∀ x1 x2 x3 x4 x5 x6 x7, f_X12_sum_21 GA GS GT (nI n) (nI tx) u (k + 1) x1 x2 x3 x4 x5 x6 x7 = b_X12_sum_21 GA GS GT (nI n) (nI tx) u (f_X12_sum_21 GA GS GT (nI n) (nI tx) u k) x1 x2 x3 x4 x5 x6 x7 from fun _ _ _ _ _ _ _ => rfl]
        simp (disch := omega) only [b_X12_sum_21, neg_nI, lit_nI, nI_add, pk_mul, pk_sub, nI_clamp, inB_nI, gd_true, bnd_def, nI_leI, nI_ltI, nI_eq, nI_mI, mI_nI, nle_T, nle_F, nlt_T, nlt_F, neq_T, neq_F, ↓reduceIte, Nat.add_zero, Nat.zero_add, Nat.mul_zero, Nat.reduceAdd, Nat.reduceMul, Nat.reduceSub, ob1_e, ob2_e, ob3_e, ob4_e, ob6_e]
      rw [← e k, ← ef]
      simp (disch := omega) only [g_X12_sum, b_X12_sum_0, b_X12_sum_20, g3, neg_nI, lit_nI, nI_add, pk_mul, pk_sub, nI_clamp, inB_nI, gd_true, bnd_def, nI_leI, nI_ltI, nI_eq, nI_mI, mI_nI, nle_T, nle_F, nlt_T, nlt_F, neq_T, neq_F, ↓reduceIte, Nat.add_zero, Nat.zero_add, Nat.mul_zero, Nat.reduceAdd, Nat.reduceMul, Nat.reduceSub, ob1_e, ob2_e, ob3_e, ob4_e, ob6_e]
theorem term_l (hn : n ≤ 240) (h : RT n t u) {dp h0 B0 a0 s s' tx : Nat} {lc code value codes : Nat → Int32} (hI : OKF n t u llT FA GA dp h0 B0) (hB : B0 ≤ 400) (hB2 : 240 ≤ B0) (hd : dp ≤ 6) (hs : s ≤ a0) (hs' : s' ≤ a0) (htx : tx ≤ 4) (hc : codes tx = nI s') : ∀ (j a a1 v2 : Nat) (c : Int32) (A : List Tok) (hA : Nat), n < a + j → a0 < a → a0 + A.length ≤ a → v2 < a → Ex A hA → hA ≤ h0 + 1 → SG n t u a a1 c → ∀ kx ky, j ≤ kx → j < ky → OUTL n tx dp s s' a0 (h0 + 1) (B0 + 1) lc code value codes (f_X1_readsTerm_12 FA FS FT (nI n) t llT kx (nI a) (nI (s + A.length)) (ap cs lc s A) (nI dp) (nI v2)) (f_X12_term_21 GA GS GT (nI n) (nI tx) u ky (nI a1) (mI 1) (nI dp) (ap tc code (520 * tx + s') A) (ap tv value (520 * tx + s') A) (upd codes tx (nI (s' + A.length))) c)
  | 0, a, a1, v2, c, A, hA, hj, h1, h2, h3, h4, h5, hsg, kx, ky, hkx, hky => by have := hsg.1; have := hsg.2.1; omega
  | j + 1, a, a1, v2, c, A, hA, hj, h1, h2, h3, h4, h5, hsg, kx, ky, hkx, hky => by
    obtain ⟨kx, rfl⟩ : ∃ k, kx = k + 1 := ⟨kx - 1, by omega⟩
    obtain ⟨ky, rfl⟩ : ∃ k, ky = k + 1 + 1 := ⟨ky - 2, by omega⟩
    obtain ⟨s1, s2, s3, s4, s5, s6, s7⟩ := hsg
    have ux : ∀ x1 x2 x3 x4 x5, f_X1_readsTerm_12 FA FS FT (nI n) t llT (kx + 1) x1 x2 x3 x4 x5 = b_X1_readsTerm_12 FA FS FT (nI n) t llT (f_X1_readsTerm_12 FA FS FT (nI n) t llT kx) x1 x2 x3 x4 x5 := fun _ _ _ _ _ => rfl
    have uy : ∀ k x1 x2 x3 x4 x5 x6 x7, f_X12_term_21 GA GS GT (nI n) (nI tx) u (k + 1) x1 x2 x3 x4 x5 x6 x7 = b_X12_term_21 GA GS GT (nI n) (nI tx) u (f_X12_term_21 GA GS GT (nI n) (nI tx) u k) x1 x2 x3 x4 x5 x6 x7 := fun _ _ _ _ _ _ _ _ => rfl
    rcases s7 with ⟨ec, en⟩ | ⟨b, b0, b1, b2, ec, hb, et, eu⟩
    · subst ec
      refine Or.inl ⟨A, a1, hA, by omega, s2, by omega, h4, h5, ?_, ?_⟩
      · rw [ux]; simp (disch := omega) only [b_X1_readsTerm_12, s3, neg_nI, lit_nI, nI_add, pk_mul, pk_sub, nI_clamp, inB_nI, gd_true, bnd_def, nI_leI, nI_ltI, nI_eq, nI_mI, mI_nI, nle_T, nle_F, nlt_T, nlt_F, neq_T, neq_F, ↓reduceIte, Nat.add_zero, Nat.zero_add, Nat.mul_zero, Nat.reduceAdd, Nat.reduceMul, Nat.reduceSub, ob1_e, ob2_e, ob3_e, ob4_e, ob6_e]
      · rw [uy]; simp (disch := omega) only [b_X12_term_21, neg_nI, lit_nI, nI_add, pk_mul, pk_sub, nI_clamp, inB_nI, gd_true, bnd_def, nI_leI, nI_ltI, nI_eq, nI_mI, mI_nI, nle_T, nle_F, nlt_T, nlt_F, neq_T, neq_F, ↓reduceIte, Nat.add_zero, Nat.zero_add, Nat.mul_zero, Nat.reduceAdd, Nat.reduceMul, Nat.reduceSub, ob1_e, ob2_e, ob3_e, ob4_e, ob6_e]
    subst ec
    have hgo : ∀ k, 2 ≤ k ∧ k ≤ 5 → ∀ vx : Int32, vx = cs (k, 0) → ∀ (X : Option XT) (Y : Option YT),
        (X = ob4 (FA (nI n) t llT (nI (a1 + 1)) (nI (s + A.length)) (ap cs lc s A) (nI dp)) fun r_2 at3 s4' c5 => if r_2 = nI 0 then some (nI 0, at3, s4', c5) else b_X1_readsTerm_76 FA FS FT (nI n) t llT (f_X1_readsTerm_12 FA FS FT (nI n) t llT kx) at3 s4' c5 (nI dp) (nI v2) vx) →
        (Y = ob6 (GA (nI n) (nI tx) u (nI (a1 + 1)) (mI 1) (nI dp) (ap tc code (520 * tx + s') A) (ap tv value (520 * tx + s') A) (upd codes tx (nI (s' + A.length)))) fun p w q c2 v3 cc => b_X12_term_59 GA GS GT (nI n) (nI tx) u (f_X12_term_21 GA GS GT (nI n) (nI tx) u (ky + 1)) p w q c2 v3 cc (nI k)) →
        OUTL n tx dp s s' a0 (h0 + 1) (B0 + 1) lc code value codes X Y := by
      intro k hk vx hvx X Y hX hY
      rcases hI (a1 + 1) (s + A.length) (s' + A.length) tx (ap cs lc s A) (ap tc code (520 * tx + s') A) (ap tv value (520 * tx + s') A) (upd codes tx (nI (s' + A.length))) (by omega) (by omega) (by omega) htx (upd_y rfl) with ⟨L, a2, hh, g1, g2, g3, g4, g5, g6, g7⟩ | ⟨a2, c2, x1, x2, p, q, code2, value2, codes2, g1, g2, g3, g4, g5, g6, g7⟩
      · obtain ⟨a3, c3, hs3⟩ := sg_c hn h g2
        have e2 := ap3 (f := cs) (r := lc) (o := s) (o1 := s + A.length) (o2 := s + A.length + L.length) (A := A) (B := L) (x := (k, 0)) rfl rfl hvx
        have e3 := ap3 (f := tc) (r := code) (o := 520 * tx + s') (o1 := 520 * tx + (s' + A.length)) (o2 := 520 * tx + (s' + A.length + L.length)) (A := A) (B := L) (x := (k, 0)) (v := nI k) (by omega) (by omega) rfl
        have e4 := ap3 (f := tv) (r := value) (o := 520 * tx + s') (o1 := 520 * tx + (s' + A.length)) (o2 := 520 * tx + (s' + A.length + L.length)) (A := A) (B := L) (x := (k, 0)) (v := nI 0) (by omega) (by omega) rfl
        have hl := len3 (A := A) (B := L) (x := (k, 0))
        have ih := term_l (lc := lc) (code := code) (value := value) (codes := codes) hn h hI hB hB2 hd hs hs' htx hc j a2 a3 (v2 + 1) c3 (A ++ (L ++ [(k, 0)])) (max hA (hh + 1)) (by omega) (by omega) (by omega) (by omega) (Ex.bin (by omega) h4 g4) (by omega) hs3 kx (ky + 1) (by omega) (by omega)
        rw [hl] at ih
        have ex : X = f_X1_readsTerm_12 FA FS FT (nI n) t llT kx (nI a2) (nI (s + (A.length + L.length + 1))) (ap cs lc s (A ++ (L ++ [(k, 0)]))) (nI dp) (nI (v2 + 1)) := by
          rw [hX, g6, ob4_e, if_neg (by decide)]
          unfold b_X1_readsTerm_76
          rw [putX (by omega), ob3_e, if_neg (by decide), e2]
          simp only [bnd_def, lit_nI, nI_add]
          rw [show s + A.length + L.length + 1 = s + (A.length + L.length + 1) by omega]
        have ey : Y = f_X12_term_21 GA GS GT (nI n) (nI tx) u (ky + 1) (nI a3) (mI 1) (nI dp) (ap tc code (520 * tx + s') (A ++ (L ++ [(k, 0)]))) (ap tv value (520 * tx + s') (A ++ (L ++ [(k, 0)]))) (upd codes tx (nI (s' + (A.length + L.length + 1)))) c3 := by
          rw [hY, g7, ob6_e]
          unfold b_X12_term_59 b_X12_term_79
          rw [lit_nI, putY htx (show s' + A.length + L.length < 520 by omega) (upd_y rfl), ob3_e, if_pos (show mI 1 = (-1 : Int32) from rfl), hs3.2.2.2.1, ob2_e, e3, e4, upd_upd, upd_upd, show s' + A.length + L.length + 1 = s' + (A.length + L.length + 1) by omega]
        rw [ex, ey]
        exact ih
      · refine Or.inr ⟨a2, c2 + 1, x1, x2, p, q, upd code2 (520 * tx + c2) (nI k), upd value2 (520 * tx + c2) (nI 0), upd codes2 tx (nI (c2 + 1)), g1, ?_, ?_, upd_y rfl, by omega, fun i hi => ?_, fun i hi => ?_⟩
        · rw [hX, g2, ob4_e, if_pos rfl]
        · rw [hY, g3, ob6_e]
          unfold b_X12_term_59 b_X12_term_79
          rw [lit_nI, putY htx (show c2 < 520 by omega) g4, ob3_e, if_neg (show ¬ nI a2 = (-1 : Int32) from nI_nm (by omega)), uy]
          simp (disch := omega) only [b_X12_term_21, neg_nI, lit_nI, nI_add, pk_mul, pk_sub, nI_clamp, inB_nI, gd_true, bnd_def, nI_leI, nI_ltI, nI_eq, nI_mI, mI_nI, nle_T, nle_F, nlt_T, nlt_F, neq_T, neq_F, ↓reduceIte, Nat.add_zero, Nat.zero_add, Nat.mul_zero, Nat.reduceAdd, Nat.reduceMul, Nat.reduceSub, ob1_e, ob2_e, ob3_e, ob4_e, ob6_e]
        · obtain ⟨w1, w2⟩ := g6 i hi
          have w3 : (i < 520 * tx + s' ∨ 520 * tx + s' + A.length ≤ i) := by omega
          rw [upd_n (by omega), upd_n (by omega), w1, w2, ap_out _ _ _ _ w3, ap_out _ _ _ _ w3]
          exact ⟨rfl, rfl⟩
        · rw [upd_n hi, g7 i hi, upd_n hi]
    by_cases q1 : b = 42
    · subst q1
      refine hgo 4 (by omega) (mI 4) (by decide) _ _ ?_ ?_
      · rw [ux]; simp (disch := omega) only [b_X1_readsTerm_12, b_X1_readsTerm_41, s3, neg_nI, lit_nI, nI_add, pk_mul, pk_sub, nI_clamp, inB_nI, gd_true, bnd_def, nI_leI, nI_ltI, nI_eq, nI_mI, mI_nI, nle_T, nle_F, nlt_T, nlt_F, neq_T, neq_F, ↓reduceIte, Nat.add_zero, Nat.zero_add, Nat.mul_zero, Nat.reduceAdd, Nat.reduceMul, Nat.reduceSub, ob1_e, ob2_e, ob3_e, ob4_e, ob6_e]
      · rw [uy]; simp (disch := omega) only [b_X12_term_21, b_X12_term_33, neg_nI, lit_nI, nI_add, pk_mul, pk_sub, nI_clamp, inB_nI, gd_true, bnd_def, nI_leI, nI_ltI, nI_eq, nI_mI, mI_nI, nle_T, nle_F, nlt_T, nlt_F, neq_T, neq_F, ↓reduceIte, Nat.add_zero, Nat.zero_add, Nat.mul_zero, Nat.reduceAdd, Nat.reduceMul, Nat.reduceSub, ob1_e, ob2_e, ob3_e, ob4_e, ob6_e]
    by_cases q2 : b = 47
    · subst q2
      refine hgo 5 (by omega) (mI 5) (by decide) _ _ ?_ ?_
      · rw [ux]; simp (disch := omega) only [b_X1_readsTerm_12, b_X1_readsTerm_41, s3, neg_nI, lit_nI, nI_add, pk_mul, pk_sub, nI_clamp, inB_nI, gd_true, bnd_def, nI_leI, nI_ltI, nI_eq, nI_mI, mI_nI, nle_T, nle_F, nlt_T, nlt_F, neq_T, neq_F, ↓reduceIte, Nat.add_zero, Nat.zero_add, Nat.mul_zero, Nat.reduceAdd, Nat.reduceMul, Nat.reduceSub, ob1_e, ob2_e, ob3_e, ob4_e, ob6_e]
      · rw [uy]; simp (disch := omega) only [b_X12_term_21, b_X12_term_33, neg_nI, lit_nI, nI_add, pk_mul, pk_sub, nI_clamp, inB_nI, gd_true, bnd_def, nI_leI, nI_ltI, nI_eq, nI_mI, mI_nI, nle_T, nle_F, nlt_T, nlt_F, neq_T, neq_F, ↓reduceIte, Nat.add_zero, Nat.zero_add, Nat.mul_zero, Nat.reduceAdd, Nat.reduceMul, Nat.reduceSub, ob1_e, ob2_e, ob3_e, ob4_e, ob6_e]
    · refine Or.inl ⟨A, a1, hA, by omega, s2, by omega, h4, h5, ?_, ?_⟩
      · rw [ux]; simp (disch := omega) only [b_X1_readsTerm_12, s3, neg_nI, lit_nI, nI_add, pk_mul, pk_sub, nI_clamp, inB_nI, gd_true, bnd_def, nI_leI, nI_ltI, nI_eq, nI_mI, mI_nI, nle_T, nle_F, nlt_T, nlt_F, neq_T, neq_F, ↓reduceIte, Nat.add_zero, Nat.zero_add, Nat.mul_zero, Nat.reduceAdd, Nat.reduceMul, Nat.reduceSub, ob1_e, ob2_e, ob3_e, ob4_e, ob6_e]
      · rw [uy]; simp (disch := omega) only [b_X12_term_21, neg_nI, lit_nI, nI_add, pk_mul, pk_sub, nI_clamp, inB_nI, gd_true, bnd_def, nI_leI, nI_ltI, nI_eq, nI_mI, mI_nI, nle_T, nle_F, nlt_T, nlt_F, neq_T, neq_F, ↓reduceIte, Nat.add_zero, Nat.zero_add, Nat.mul_zero, Nat.reduceAdd, Nat.reduceMul, Nat.reduceSub, ob1_e, ob2_e, ob3_e, ob4_e, ob6_e]
theorem term_o (hn : n ≤ 240) (h : RT n t u) {dp h0 B0 : Nat} (hI : OKF n t u llT FA GA dp h0 B0) (hB : B0 ≤ 400) (hB2 : 240 ≤ B0) (hd : dp ≤ 6) : OKF n t u llT (g_X1_readsTerm FA FS FT) (g_X12_term GA GS GT) dp (h0 + 1) (B0 + 1) := by
  intro a s s' tx lc code value codes ha hs hs' htx hc
  have hf := fu_le
  rcases hI a s s' tx lc code value codes ha hs hs' htx hc with ⟨L, a2, hh, g1, g2, g3, g4, g5, g6, g7⟩ | ⟨a2, c2, x1, x2, p, q, code2, value2, codes2, g1, g2, g3, g4, g5, g6, g7⟩
  · obtain ⟨a3, c3, hs3⟩ := sg_c hn h g2
    have := term_l (FA := FA) (FS := FS) (GA := GA) (GS := GS) (FT := FT) (GT := GT) (lc := lc) (code := code) (value := value) (codes := codes) hn h hI hB hB2 hd hs hs' htx hc (n + 1) a2 a3 0 c3 L hh (by omega) g1 g3 (by omega) g4 (by omega) hs3 fu fu (by omega) (by omega)
    have ex : g_X1_readsTerm FA FS FT (nI n) t llT (nI a) (nI s) lc (nI dp) = f_X1_readsTerm_12 FA FS FT (nI n) t llT fu (nI a2) (nI (s + L.length)) (ap cs lc s L) (nI dp) (nI 0) := by
      simp (disch := omega) only [g_X1_readsTerm, b_X1_readsTerm_0, g6, neg_nI, lit_nI, nI_add, pk_mul, pk_sub, nI_clamp, inB_nI, gd_true, bnd_def, nI_leI, nI_ltI, nI_eq, nI_mI, mI_nI, nle_T, nle_F, nlt_T, nlt_F, neq_T, neq_F, ↓reduceIte, Nat.add_zero, Nat.zero_add, Nat.mul_zero, Nat.reduceAdd, Nat.reduceMul, Nat.reduceSub, ob1_e, ob2_e, ob3_e, ob4_e, ob6_e]
    have ey : g_X12_term GA GS GT (nI n) (nI tx) u (nI a) (mI 1) (nI dp) code value codes = f_X12_term_21 GA GS GT (nI n) (nI tx) u fu (nI a3) (mI 1) (nI dp) (ap tc code (520 * tx + s') L) (ap tv value (520 * tx + s') L) (upd codes tx (nI (s' + L.length))) c3 := by
      simp (disch := omega) only [g_X12_term, b_X12_term_0, b_X12_term_20, g7, hs3.2.2.2.1, neg_nI, lit_nI, nI_add, pk_mul, pk_sub, nI_clamp, inB_nI, gd_true, bnd_def, nI_leI, nI_ltI, nI_eq, nI_mI, mI_nI, nle_T, nle_F, nlt_T, nlt_F, neq_T, neq_F, ↓reduceIte, Nat.add_zero, Nat.zero_add, Nat.mul_zero, Nat.reduceAdd, Nat.reduceMul, Nat.reduceSub, ob1_e, ob2_e, ob3_e, ob4_e, ob6_e]
    rw [ex, ey]
    exact this
  · obtain ⟨k, ef⟩ : ∃ k, fu = k + 1 := ⟨fu - 1, by omega⟩
    refine Or.inr ⟨a2, c2, x1, x2, p, q, code2, value2, codes2, g1, ?_, ?_, g4, by omega, g6, g7⟩
    · simp (disch := omega) only [g_X1_readsTerm, b_X1_readsTerm_0, g2, neg_nI, lit_nI, nI_add, pk_mul, pk_sub, nI_clamp, inB_nI, gd_true, bnd_def, nI_leI, nI_ltI, nI_eq, nI_mI, mI_nI, nle_T, nle_F, nlt_T, nlt_F, neq_T, neq_F, ↓reduceIte, Nat.add_zero, Nat.zero_add, Nat.mul_zero, Nat.reduceAdd, Nat.reduceMul, Nat.reduceSub, ob1_e, ob2_e, ob3_e, ob4_e, ob6_e]
    · have e : ∀ k, f_X12_term_21 GA GS GT (nI n) (nI tx) u (k + 1) p (nI a2) q code2 value2 codes2 (mI 1) = some (p, nI a2, q, code2, value2, codes2) := by
        intro k
        rw [show ∀ x1 x2 x3 x4 x5 x6 x7, f_X12_term_21 GA GS GT (nI n) (nI tx) u (k + 1) x1 x2 x3 x4 x5 x6 x7 = b_X12_term_21 GA GS GT (nI n) (nI tx) u (f_X12_term_21 GA GS GT (nI n) (nI tx) u k) x1 x2 x3 x4 x5 x6 x7 from fun _ _ _ _ _ _ _ => rfl]
        simp (disch := omega) only [b_X12_term_21, neg_nI, lit_nI, nI_add, pk_mul, pk_sub, nI_clamp, inB_nI, gd_true, bnd_def, nI_leI, nI_ltI, nI_eq, nI_mI, mI_nI, nle_T, nle_F, nlt_T, nlt_F, neq_T, neq_F, ↓reduceIte, Nat.add_zero, Nat.zero_add, Nat.mul_zero, Nat.reduceAdd, Nat.reduceMul, Nat.reduceSub, ob1_e, ob2_e, ob3_e, ob4_e, ob6_e]
      rw [← e k, ← ef]
      simp (disch := omega) only [g_X12_term, b_X12_term_0, b_X12_term_20, g3, neg_nI, lit_nI, nI_add, pk_mul, pk_sub, nI_clamp, inB_nI, gd_true, bnd_def, nI_leI, nI_ltI, nI_eq, nI_mI, mI_nI, nle_T, nle_F, nlt_T, nlt_F, neq_T, neq_F, ↓reduceIte, Nat.add_zero, Nat.zero_add, Nat.mul_zero, Nat.reduceAdd, Nat.reduceMul, Nat.reduceSub, ob1_e, ob2_e, ob3_e, ob4_e, ob6_e]
theorem expr_o (hn : n ≤ 240) (h : RT n t u) (tb : LT6 llT) : ∀ (k dp : Nat), dp + k = 6 → ∀ d d', 3 * k + 3 ≤ d → 3 * k + 3 ≤ d' → OKF n t u llT (f_X1_readsSum d) (f_X12_sum d') dp (2 * (6 - dp) + 3) (240 + 10 * (6 - dp) + 2)
  | 0, dp, hk, d, d', hd, hd' => by
    obtain ⟨d, rfl⟩ : ∃ e, d = e + 1 + 1 + 1 := ⟨d - 3, by omega⟩
    obtain ⟨d', rfl⟩ : ∃ e, d' = e + 1 + 1 + 1 := ⟨d' - 3, by omega⟩
    have h1 : OKF n t u llT (f_X1_readsAtom (d + 1)) (f_X12_atom (d' + 1)) dp _ _ := atom_o (FA := f_X1_readsAtom d) (FS := f_X1_readsSum d) (FT := f_X1_readsTerm d) (GA := f_X12_atom d') (GS := f_X12_sum d') (GT := f_X12_term d') hn h tb (by omega) (fun q => by omega)
    have h2 : OKF n t u llT (f_X1_readsTerm (d + 1 + 1)) (f_X12_term (d' + 1 + 1)) dp _ _ := term_o (FA := f_X1_readsAtom (d + 1)) (FS := f_X1_readsSum (d + 1)) (FT := f_X1_readsTerm (d + 1)) (GA := f_X12_atom (d' + 1)) (GS := f_X12_sum (d' + 1)) (GT := f_X12_term (d' + 1)) hn h h1 (by omega) (by omega) (by omega)
    have h3 : OKF n t u llT (f_X1_readsSum (d + 1 + 1 + 1)) (f_X12_sum (d' + 1 + 1 + 1)) dp _ _ := sum_o (FA := f_X1_readsAtom (d + 1 + 1)) (FS := f_X1_readsSum (d + 1 + 1)) (FT := f_X1_readsTerm (d + 1 + 1)) (GA := f_X12_atom (d' + 1 + 1)) (GS := f_X12_sum (d' + 1 + 1)) (GT := f_X12_term (d' + 1 + 1)) hn h h2 (by omega) (by omega) (by omega)
    exact h3
  | k + 1, dp, hk, d, d', hd, hd' => by
    obtain ⟨d, rfl⟩ : ∃ e, d = e + 1 + 1 + 1 := ⟨d - 3, by omega⟩
    obtain ⟨d', rfl⟩ : ∃ e, d' = e + 1 + 1 + 1 := ⟨d' - 3, by omega⟩
    have h0 := expr_o hn h tb k (dp + 1) (by omega) d d' (by omega) (by omega)
    have h0' : OKF n t u llT (f_X1_readsSum d) (f_X12_sum d') (dp + 1) (2 * (6 - dp) + 1) (240 + 10 * (6 - dp)) := by
      intro a s s' tx lc code value codes ha hs hs' htx hc
      rcases h0 a s s' tx lc code value codes ha hs hs' htx hc with ⟨L, a2, hh, g1, g2, g3, g4, g5, g6⟩ | ⟨a2, c2, x1, x2, p, q, code2, value2, codes2, g1, g2, g3, g4, g5, g6⟩
      · exact Or.inl ⟨L, a2, hh, g1, g2, g3, g4, by omega, g6⟩
      · exact Or.inr ⟨a2, c2, x1, x2, p, q, code2, value2, codes2, g1, g2, g3, g4, by omega, g6⟩
    have h1 : OKF n t u llT (f_X1_readsAtom (d + 1)) (f_X12_atom (d' + 1)) dp _ _ := atom_o (FA := f_X1_readsAtom d) (FS := f_X1_readsSum d) (FT := f_X1_readsTerm d) (GA := f_X12_atom d') (GS := f_X12_sum d') (GT := f_X12_term d') hn h tb (by omega) (fun _ => h0')
    have h2 : OKF n t u llT (f_X1_readsTerm (d + 1 + 1)) (f_X12_term (d' + 1 + 1)) dp _ _ := term_o (FA := f_X1_readsAtom (d + 1)) (FS := f_X1_readsSum (d + 1)) (FT := f_X1_readsTerm (d + 1)) (GA := f_X12_atom (d' + 1)) (GS := f_X12_sum (d' + 1)) (GT := f_X12_term (d' + 1)) hn h h1 (by omega) (by omega) (by omega)
    have h3 : OKF n t u llT (f_X1_readsSum (d + 1 + 1 + 1)) (f_X12_sum (d' + 1 + 1 + 1)) dp _ _ := sum_o (FA := f_X1_readsAtom (d + 1 + 1)) (FS := f_X1_readsSum (d + 1 + 1)) (FT := f_X1_readsTerm (d + 1 + 1)) (GA := f_X12_atom (d' + 1 + 1)) (GS := f_X12_sum (d' + 1 + 1)) (GT := f_X12_term (d' + 1 + 1)) hn h h2 (by omega) (by omega) (by omega)
    exact h3
theorem sum60 (hn : n ≤ 240) (h : RT n t u) (tb : LT6 llT) {dp : Nat} (hd : dp ≤ 6) : OKF n t u llT (f_X1_readsSum 60) (f_X12_sum 60) dp (2 * (6 - dp) + 3) (240 + 10 * (6 - dp) + 2) := expr_o hn h tb (6 - dp) dp (by omega) 60 60 (by omega) (by omega)
end SU
