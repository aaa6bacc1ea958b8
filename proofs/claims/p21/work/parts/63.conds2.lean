/-! conditions by both: and, or -/
section CP
variable {n : Nat} {t u llT : Nat → Int32} {FC FO FM FU : FX} {GC GA GO GU : FY}
theorem and_w : IDW n u (g_X12_goOnAnd GC GA GO GU) := by
  intro tx w p q code value codes hw
  obtain ⟨k, ef⟩ : ∃ k, fu = k + 1 := ⟨fu - 1, by have := fu_le; omega⟩
  have e : ∀ k, f_X12_goOnAnd_0 GC GA GO GU (nI n) (nI tx) u (k + 1) p (nI w) q code value codes = some (p, nI w, q, code, value, codes) := by
    intro k
    simp (disch := omega) only [f_X12_goOnAnd_0, b_X12_goOnAnd_0, neg_nI, lit_nI, nI_add, pk_mul, pk_sub, nI_clamp, inB_nI, gd_true, bnd_def, nI_leI, nI_ltI, nI_eq, nI_mI, mI_nI, nle_T, nle_F, nlt_T, nlt_F, neq_T, neq_F, ↓reduceIte, Nat.add_zero, Nat.zero_add, Nat.mul_zero, Nat.reduceAdd, Nat.reduceMul, Nat.reduceSub, ob1_e, ob2_e, ob3_e, ob4_e, ob6_e]
  rw [← e k, ← ef]
  rfl
theorem or_w : IDW n u (g_X12_goOnOr GC GA GO GU) := by
  intro tx w p q code value codes hw
  obtain ⟨k, ef⟩ : ∃ k, fu = k + 1 := ⟨fu - 1, by have := fu_le; omega⟩
  have e : ∀ k, f_X12_goOnOr_0 GC GA GO GU (nI n) (nI tx) u (k + 1) p (nI w) q code value codes = some (p, nI w, q, code, value, codes) := by
    intro k
    simp (disch := omega) only [f_X12_goOnOr_0, b_X12_goOnOr_0, neg_nI, lit_nI, nI_add, pk_mul, pk_sub, nI_clamp, inB_nI, gd_true, bnd_def, nI_leI, nI_ltI, nI_eq, nI_mI, mI_nI, nle_T, nle_F, nlt_T, nlt_F, neq_T, neq_F, ↓reduceIte, Nat.add_zero, Nat.zero_add, Nat.mul_zero, Nat.reduceAdd, Nat.reduceMul, Nat.reduceSub, ob1_e, ob2_e, ob3_e, ob4_e, ob6_e]
  rw [← e k, ← ef]
  rfl
theorem mu_l (hn : n ≤ 240) (h : RT n t u) {dp h0 B0 a0 s s' tx : Nat} {lc code value codes : Nat → Int32} (hI : OKF n t u llT FU GU dp h0 B0) (hB : B0 ≤ 400) (hB2 : 240 ≤ B0) (hd : dp ≤ 6) (hs : s ≤ a0) (hs' : s' ≤ a0) (htx : tx ≤ 4) (hc : codes tx = nI s') : ∀ (j a v2 : Nat) (A : List Tok) (hA : Nat), n < a + j → a ≤ n → a0 < a → a0 + A.length ≤ a → v2 < a → Ex A hA → hA ≤ h0 + 1 → ∀ kx ky, j ≤ kx → j < ky → OUTL n tx dp s s' a0 (h0 + 1) (B0 + 1) lc code value codes (f_X1_readsMoreUnits_2 FC FO FM FU (nI n) t llT kx (nI a) (nI (s + A.length)) (ap cs lc s A) (nI dp) (nI v2)) (f_X12_goOnAnd_0 GC GA GO GU (nI n) (nI tx) u ky (nI a) (mI 1) (nI dp) (ap tc code (520 * tx + s') A) (ap tv value (520 * tx + s') A) (upd codes tx (nI (s' + A.length))))
  | 0, a, v2, A, hA, hj, ha, h1, h2, h3, h4, h5, kx, ky, hkx, hky => by omega
  | j + 1, a, v2, A, hA, hj, ha, h1, h2, h3, h4, h5, kx, ky, hkx, hky => by
    obtain ⟨kx, rfl⟩ : ∃ k, kx = k + 1 := ⟨kx - 1, by omega⟩
    obtain ⟨ky, rfl⟩ : ∃ k, ky = k + 1 + 1 := ⟨ky - 2, by omega⟩
    obtain ⟨a1, c, s1, s2, s3, s4, s5, s6, s7⟩ := sg_c hn h ha
    have ux : ∀ x1 x2 x3 x4 x5, f_X1_readsMoreUnits_2 FC FO FM FU (nI n) t llT (kx + 1) x1 x2 x3 x4 x5 = b_X1_readsMoreUnits_2 FC FO FM FU (nI n) t llT (f_X1_readsMoreUnits_2 FC FO FM FU (nI n) t llT kx) x1 x2 x3 x4 x5 := fun _ _ _ _ _ => rfl
    have uy : ∀ k x1 x2 x3 x4 x5 x6, f_X12_goOnAnd_0 GC GA GO GU (nI n) (nI tx) u (k + 1) x1 x2 x3 x4 x5 x6 = b_X12_goOnAnd_0 GC GA GO GU (nI n) (nI tx) u (f_X12_goOnAnd_0 GC GA GO GU (nI n) (nI tx) u k) x1 x2 x3 x4 x5 x6 := fun _ _ _ _ _ _ _ => rfl
    by_cases q38 : c = nI 38
    · subst q38
      have hlt : a1 < n := by
        rcases s7 with ⟨e, _⟩ | ⟨_, _, _, _, _, e, _⟩
        · exact absurd e (nI_nm (by omega))
        · exact e
      have hX : f_X1_readsMoreUnits_2 FC FO FM FU (nI n) t llT (kx + 1) (nI a) (nI (s + A.length)) (ap cs lc s A) (nI dp) (nI v2) = ob4 (FU (nI n) t llT (nI (a1 + 1)) (nI (s + A.length)) (ap cs lc s A) (nI dp)) fun r_4 at5 s6' c7 => if r_4 = nI 0 then some (nI 0, at5, s6', c7) else ob3 (f_X1_put s6' c7 (mI 9)) fun r_9 s10 c11 => if r_9 = nI 0 then some (nI 0, at5, s10, c11) else f_X1_readsMoreUnits_2 FC FO FM FU (nI n) t llT kx at5 s10 c11 (nI dp) (nI (v2 + 1)) := by
        rw [ux]; simp (disch := omega) only [b_X1_readsMoreUnits_2, f_X10_take, b_X10_take_0, s3, neg_nI, lit_nI, nI_add, pk_mul, pk_sub, nI_clamp, inB_nI, gd_true, bnd_def, nI_leI, nI_ltI, nI_eq, nI_mI, mI_nI, nle_T, nle_F, nlt_T, nlt_F, neq_T, neq_F, ↓reduceIte, Nat.add_zero, Nat.zero_add, Nat.mul_zero, Nat.reduceAdd, Nat.reduceMul, Nat.reduceSub, ob1_e, ob2_e, ob3_e, ob4_e, ob6_e]
      have hY : f_X12_goOnAnd_0 GC GA GO GU (nI n) (nI tx) u (ky + 1 + 1) (nI a) (mI 1) (nI dp) (ap tc code (520 * tx + s') A) (ap tv value (520 * tx + s') A) (upd codes tx (nI (s' + A.length))) = ob6 (GU (nI n) (nI tx) u (nI (a1 + 1)) (mI 1) (nI dp) (ap tc code (520 * tx + s') A) (ap tv value (520 * tx + s') A) (upd codes tx (nI (s' + A.length)))) fun p w q c2 v3 cc => ob3 (f_X12_put (nI tx) c2 v3 cc (nI 10) (nI 0)) fun c12 v13 cc14 => f_X12_goOnAnd_0 GC GA GO GU (nI n) (nI tx) u (ky + 1) p w q c12 v13 cc14 := by
        rw [uy]; simp (disch := omega) only [b_X12_goOnAnd_0, s4, neg_nI, lit_nI, nI_add, pk_mul, pk_sub, nI_clamp, inB_nI, gd_true, bnd_def, nI_leI, nI_ltI, nI_eq, nI_mI, mI_nI, nle_T, nle_F, nlt_T, nlt_F, neq_T, neq_F, ↓reduceIte, Nat.add_zero, Nat.zero_add, Nat.mul_zero, Nat.reduceAdd, Nat.reduceMul, Nat.reduceSub, ob1_e, ob2_e, ob3_e, ob4_e, ob6_e]
      rw [hX, hY]
      rcases hI (a1 + 1) (s + A.length) (s' + A.length) tx (ap cs lc s A) (ap tc code (520 * tx + s') A) (ap tv value (520 * tx + s') A) (upd codes tx (nI (s' + A.length))) (by omega) (by omega) (by omega) htx (upd_y rfl) with ⟨L, a2, hh, g1, g2, g3, g4, g5, g6, g7⟩ | ⟨a2, c2, x1, x2, p, q, code2, value2, codes2, g1, g2, g3, g4, g5, g6, g7⟩
      · have e2 := ap3 (f := cs) (r := lc) (o := s) (o1 := s + A.length) (o2 := s + A.length + L.length) (A := A) (B := L) (x := (10, 0)) (v := mI 9) rfl rfl (by decide)
        have e3 := ap3 (f := tc) (r := code) (o := 520 * tx + s') (o1 := 520 * tx + (s' + A.length)) (o2 := 520 * tx + (s' + A.length + L.length)) (A := A) (B := L) (x := (10, 0)) (v := nI 10) (by omega) (by omega) rfl
        have e4 := ap3 (f := tv) (r := value) (o := 520 * tx + s') (o1 := 520 * tx + (s' + A.length)) (o2 := 520 * tx + (s' + A.length + L.length)) (A := A) (B := L) (x := (10, 0)) (v := nI 0) (by omega) (by omega) rfl
        have hl := len3 (A := A) (B := L) (x := (10, 0))
        have ih := mu_l (lc := lc) (code := code) (value := value) (codes := codes) hn h hI hB hB2 hd hs hs' htx hc j a2 (v2 + 1) (A ++ (L ++ [(10, 0)])) (max hA (hh + 1)) (by omega) g2 (by omega) (by omega) (by omega) (Ex.bin (by omega) h4 g4) (by omega) kx (ky + 1) (by omega) (by omega)
        rw [hl] at ih
        rw [g6, g7, ob4_e, ob6_e, if_neg (by decide), putX (by omega), ob3_e, if_neg (by decide), e2, putY htx (show s' + A.length + L.length < 520 by omega) (upd_y rfl), ob3_e, e3, e4, upd_upd, upd_upd, show s + A.length + L.length + 1 = s + (A.length + L.length + 1) by omega, show s' + A.length + L.length + 1 = s' + (A.length + L.length + 1) by omega]
        exact ih
      · refine Or.inr ⟨a2, c2 + 1, x1, x2, p, q, upd code2 (520 * tx + c2) (nI 10), upd value2 (520 * tx + c2) (nI 0), upd codes2 tx (nI (c2 + 1)), g1, ?_, ?_, upd_y rfl, by omega, fun i hi => ?_, fun i hi => ?_⟩
        · rw [g2, ob4_e, if_pos rfl]
        · rw [g3, ob6_e, putY htx (show c2 < 520 by omega) g4, ob3_e, uy]
          simp (disch := omega) only [b_X12_goOnAnd_0, neg_nI, lit_nI, nI_add, pk_mul, pk_sub, nI_clamp, inB_nI, gd_true, bnd_def, nI_leI, nI_ltI, nI_eq, nI_mI, mI_nI, nle_T, nle_F, nlt_T, nlt_F, neq_T, neq_F, ↓reduceIte, Nat.add_zero, Nat.zero_add, Nat.mul_zero, Nat.reduceAdd, Nat.reduceMul, Nat.reduceSub, ob1_e, ob2_e, ob3_e, ob4_e, ob6_e]
        · obtain ⟨w1, w2⟩ := g6 i hi
          have w3 : (i < 520 * tx + s' ∨ 520 * tx + s' + A.length ≤ i) := by omega
          rw [upd_n (by omega), upd_n (by omega), w1, w2, ap_out _ _ _ _ w3, ap_out _ _ _ _ w3]
          exact ⟨rfl, rfl⟩
        · rw [upd_n hi, g7 i hi, upd_n hi]
    · refine Or.inl ⟨A, a1, hA, by omega, s2, by omega, h4, h5, ?_, ?_⟩
      · rw [ux]; simp (disch := omega) only [b_X1_readsMoreUnits_2, f_X10_take, b_X10_take_0, s3, q38, neg_nI, lit_nI, nI_add, pk_mul, pk_sub, nI_clamp, inB_nI, gd_true, bnd_def, nI_leI, nI_ltI, nI_eq, nI_mI, mI_nI, nle_T, nle_F, nlt_T, nlt_F, neq_T, neq_F, ↓reduceIte, Nat.add_zero, Nat.zero_add, Nat.mul_zero, Nat.reduceAdd, Nat.reduceMul, Nat.reduceSub, ob1_e, ob2_e, ob3_e, ob4_e, ob6_e]
      · rw [uy]; simp (disch := omega) only [b_X12_goOnAnd_0, s4, q38, neg_nI, lit_nI, nI_add, pk_mul, pk_sub, nI_clamp, inB_nI, gd_true, bnd_def, nI_leI, nI_ltI, nI_eq, nI_mI, mI_nI, nle_T, nle_F, nlt_T, nlt_F, neq_T, neq_F, ↓reduceIte, Nat.add_zero, Nat.zero_add, Nat.mul_zero, Nat.reduceAdd, Nat.reduceMul, Nat.reduceSub, ob1_e, ob2_e, ob3_e, ob4_e, ob6_e]
theorem mu_o (hn : n ≤ 240) (h : RT n t u) {dp h0 B0 : Nat} (hI : OKF n t u llT FU GU dp h0 B0) (hB : B0 ≤ 400) (hB2 : 240 ≤ B0) (hd : dp ≤ 6) : OKA n t u llT (g_X1_readsMoreUnits FC FO FM FU) (g_X12_goOnAnd GC GA GO GU) dp (h0 + 1) (h0 + 1) (B0 + 1) := by
  intro a0 a s s' tx hA lc code value codes A ha h0' h1 hs hs' htx hc eA hhA
  have hf := fu_le
  exact mu_l hn h hI hB hB2 hd hs hs' htx hc (n + 1) a 0 A hA (by omega) ha h0' h1 (by omega) eA hhA fu fu (by omega) (by omega)
theorem mt_l (hn : n ≤ 240) (h : RT n t u) {dp h0 B0 a0 s s' tx : Nat} {lc code value codes : Nat → Int32} (hI : OKF n t u llT FU GU dp h0 B0) (hM : OKA n t u llT FM GA dp (h0 + 1) (h0 + 1) (B0 + 1)) (hW : IDW n u GA) (hB : B0 ≤ 400) (hB2 : 240 ≤ B0) (hd : dp ≤ 6) (hs : s ≤ a0) (hs' : s' ≤ a0) (htx : tx ≤ 4) (hc : codes tx = nI s') : ∀ (j a v2 : Nat) (A : List Tok) (hA : Nat), n < a + j → a ≤ n → a0 < a → a0 + A.length ≤ a → v2 < a → Ex A hA → hA ≤ h0 + 2 → ∀ kx ky, j ≤ kx → j < ky → OUTL n tx dp s s' a0 (h0 + 2) (B0 + 2) lc code value codes (f_X1_readsMoreTruths_2 FC FO FM FU (nI n) t llT kx (nI a) (nI (s + A.length)) (ap cs lc s A) (nI dp) (nI v2)) (f_X12_goOnOr_0 GC GA GO GU (nI n) (nI tx) u ky (nI a) (mI 1) (nI dp) (ap tc code (520 * tx + s') A) (ap tv value (520 * tx + s') A) (upd codes tx (nI (s' + A.length))))
  | 0, a, v2, A, hA, hj, ha, h1, h2, h3, h4, h5, kx, ky, hkx, hky => by omega
  | j + 1, a, v2, A, hA, hj, ha, h1, h2, h3, h4, h5, kx, ky, hkx, hky => by
    obtain ⟨kx, rfl⟩ : ∃ k, kx = k + 1 := ⟨kx - 1, by omega⟩
    obtain ⟨ky, rfl⟩ : ∃ k, ky = k + 1 + 1 := ⟨ky - 2, by omega⟩
    obtain ⟨a1, c, s1, s2, s3, s4, s5, s6, s7⟩ := sg_c hn h ha
    have ux : ∀ x1 x2 x3 x4 x5, f_X1_readsMoreTruths_2 FC FO FM FU (nI n) t llT (kx + 1) x1 x2 x3 x4 x5 = b_X1_readsMoreTruths_2 FC FO FM FU (nI n) t llT (f_X1_readsMoreTruths_2 FC FO FM FU (nI n) t llT kx) x1 x2 x3 x4 x5 := fun _ _ _ _ _ => rfl
    have uy : ∀ k x1 x2 x3 x4 x5 x6, f_X12_goOnOr_0 GC GA GO GU (nI n) (nI tx) u (k + 1) x1 x2 x3 x4 x5 x6 = b_X12_goOnOr_0 GC GA GO GU (nI n) (nI tx) u (f_X12_goOnOr_0 GC GA GO GU (nI n) (nI tx) u k) x1 x2 x3 x4 x5 x6 := fun _ _ _ _ _ _ _ => rfl
    by_cases q38 : c = nI 124
    · subst q38
      have hlt : a1 < n := by
        rcases s7 with ⟨e, _⟩ | ⟨_, _, _, _, _, e, _⟩
        · exact absurd e (nI_nm (by omega))
        · exact e
      have hX : f_X1_readsMoreTruths_2 FC FO FM FU (nI n) t llT (kx + 1) (nI a) (nI (s + A.length)) (ap cs lc s A) (nI dp) (nI v2) = ob4 (FU (nI n) t llT (nI (a1 + 1)) (nI (s + A.length)) (ap cs lc s A) (nI dp)) fun r_4 at5 s6' c7 => if r_4 = nI 0 then some (nI 0, at5, s6', c7) else ob4 (FM (nI n) t llT at5 s6' c7 (nI dp)) fun r_9 at10 s11 c12 => if r_9 = nI 0 then some (nI 0, at10, s11, c12) else ob3 (f_X1_put s11 c12 (mI 10)) fun r_14 s15 c16 => if r_14 = nI 0 then some (nI 0, at10, s15, c16) else f_X1_readsMoreTruths_2 FC FO FM FU (nI n) t llT kx at10 s15 c16 (nI dp) (nI (v2 + 1)) := by
        rw [ux]; simp (disch := omega) only [b_X1_readsMoreTruths_2, f_X10_take, b_X10_take_0, s3, neg_nI, lit_nI, nI_add, pk_mul, pk_sub, nI_clamp, inB_nI, gd_true, bnd_def, nI_leI, nI_ltI, nI_eq, nI_mI, mI_nI, nle_T, nle_F, nlt_T, nlt_F, neq_T, neq_F, ↓reduceIte, Nat.add_zero, Nat.zero_add, Nat.mul_zero, Nat.reduceAdd, Nat.reduceMul, Nat.reduceSub, ob1_e, ob2_e, ob3_e, ob4_e, ob6_e]
      have hY : f_X12_goOnOr_0 GC GA GO GU (nI n) (nI tx) u (ky + 1 + 1) (nI a) (mI 1) (nI dp) (ap tc code (520 * tx + s') A) (ap tv value (520 * tx + s') A) (upd codes tx (nI (s' + A.length))) = ob6 (GU (nI n) (nI tx) u (nI (a1 + 1)) (mI 1) (nI dp) (ap tc code (520 * tx + s') A) (ap tv value (520 * tx + s') A) (upd codes tx (nI (s' + A.length)))) fun p w q c2 v3 cc => ob6 (GA (nI n) (nI tx) u p w q c2 v3 cc) fun p w q c2 v3 cc => ob3 (f_X12_put (nI tx) c2 v3 cc (nI 11) (nI 0)) fun c12 v13 cc14 => f_X12_goOnOr_0 GC GA GO GU (nI n) (nI tx) u (ky + 1) p w q c12 v13 cc14 := by
        rw [uy]; simp (disch := omega) only [b_X12_goOnOr_0, s4, neg_nI, lit_nI, nI_add, pk_mul, pk_sub, nI_clamp, inB_nI, gd_true, bnd_def, nI_leI, nI_ltI, nI_eq, nI_mI, mI_nI, nle_T, nle_F, nlt_T, nlt_F, neq_T, neq_F, ↓reduceIte, Nat.add_zero, Nat.zero_add, Nat.mul_zero, Nat.reduceAdd, Nat.reduceMul, Nat.reduceSub, ob1_e, ob2_e, ob3_e, ob4_e, ob6_e]
      rw [hX, hY]
      have hbad : ∀ {B : Nat} {X : Option XT} {Y : Option YT} (hBB : B ≤ B0 + 1) {a2 c2 : Nat} {x1 : Int32} {x2 : Nat → Int32} {p q : Int32} {code2 value2 codes2 : Nat → Int32} (g1 : a2 ≤ n) (g2 : X = some (nI 0, nI a2, x1, x2)) (g3 : Y = ob3 (f_X12_put (nI tx) code2 value2 codes2 (nI 11) (nI 0)) fun c12 v13 cc14 => f_X12_goOnOr_0 GC GA GO GU (nI n) (nI tx) u (ky + 1) p (nI a2) q c12 v13 cc14) (g4 : codes2 tx = nI c2) (g5 : c2 ≤ B) (g6 : ∀ i, (i < 520 * tx ∨ 520 * tx + 520 ≤ i) → code2 i = ap tc code (520 * tx + s') A i ∧ value2 i = ap tv value (520 * tx + s') A i) (g7 : ∀ i, i ≠ tx → codes2 i = upd codes tx (nI (s' + A.length)) i), OUTL n tx dp s s' a0 (h0 + 2) (B0 + 2) lc code value codes X Y := by
        intro B X Y hBB a2 c2 x1 x2 p q code2 value2 codes2 g1 g2 g3 g4 g5 g6 g7
        refine Or.inr ⟨a2, c2 + 1, x1, x2, p, q, upd code2 (520 * tx + c2) (nI 11), upd value2 (520 * tx + c2) (nI 0), upd codes2 tx (nI (c2 + 1)), g1, g2, ?_, upd_y rfl, by omega, fun i hi => ?_, fun i hi => ?_⟩
        · rw [g3, putY htx (show c2 < 520 by omega) g4, ob3_e, uy]
          simp (disch := omega) only [b_X12_goOnOr_0, neg_nI, lit_nI, nI_add, pk_mul, pk_sub, nI_clamp, inB_nI, gd_true, bnd_def, nI_leI, nI_ltI, nI_eq, nI_mI, mI_nI, nle_T, nle_F, nlt_T, nlt_F, neq_T, neq_F, ↓reduceIte, Nat.add_zero, Nat.zero_add, Nat.mul_zero, Nat.reduceAdd, Nat.reduceMul, Nat.reduceSub, ob1_e, ob2_e, ob3_e, ob4_e, ob6_e]
        · obtain ⟨w1, w2⟩ := g6 i hi
          have w3 : (i < 520 * tx + s' ∨ 520 * tx + s' + A.length ≤ i) := by omega
          rw [upd_n (by omega), upd_n (by omega), w1, w2, ap_out _ _ _ _ w3, ap_out _ _ _ _ w3]
          exact ⟨rfl, rfl⟩
        · rw [upd_n hi, g7 i hi, upd_n hi]
      rcases hI (a1 + 1) (s + A.length) (s' + A.length) tx (ap cs lc s A) (ap tc code (520 * tx + s') A) (ap tv value (520 * tx + s') A) (upd codes tx (nI (s' + A.length))) (by omega) (by omega) (by omega) htx (upd_y rfl) with ⟨L, a2, hh, g1, g2, g3, g4, g5, g6, g7⟩ | ⟨a2, c2, x1, x2, p, q, code2, value2, codes2, g1, g2, g3, g4, g5, g6, g7⟩
      · rcases hM (a1 + 1) a2 (s + A.length) (s' + A.length) tx hh (ap cs lc s A) (ap tc code (520 * tx + s') A) (ap tv value (520 * tx + s') A) (upd codes tx (nI (s' + A.length))) L g2 g1 g3 (by omega) (by omega) htx (upd_y rfl) g4 (by omega) with ⟨L2, a3, h6, w1, w2, w3, w4, w5, w6, w7⟩ | ⟨a3, c3, y1, y2, p, q, code3, value3, codes3, w1, w2, w3, w4, w5, w6, w7⟩
        · have e2 := ap3 (f := cs) (r := lc) (o := s) (o1 := s + A.length) (o2 := s + A.length + L2.length) (A := A) (B := L2) (x := (11, 0)) (v := mI 10) rfl rfl (by decide)
          have e3 := ap3 (f := tc) (r := code) (o := 520 * tx + s') (o1 := 520 * tx + (s' + A.length)) (o2 := 520 * tx + (s' + A.length + L2.length)) (A := A) (B := L2) (x := (11, 0)) (v := nI 11) (by omega) (by omega) rfl
          have e4 := ap3 (f := tv) (r := value) (o := 520 * tx + s') (o1 := 520 * tx + (s' + A.length)) (o2 := 520 * tx + (s' + A.length + L2.length)) (A := A) (B := L2) (x := (11, 0)) (v := nI 0) (by omega) (by omega) rfl
          have hl := len3 (A := A) (B := L2) (x := (11, 0))
          have ih := mt_l (lc := lc) (code := code) (value := value) (codes := codes) hn h hI hM hW hB hB2 hd hs hs' htx hc j a3 (v2 + 1) (A ++ (L2 ++ [(11, 0)])) (max hA (h6 + 1)) (by omega) w2 (by omega) (by omega) (by omega) (Ex.bin (by omega) h4 w4) (by omega) kx (ky + 1) (by omega) (by omega)
          rw [hl] at ih
          rw [g6, g7, ob4_e, ob6_e, if_neg (by decide), w6, w7, ob4_e, ob6_e, if_neg (by decide), putX (by omega), ob3_e, if_neg (by decide), e2, putY htx (show s' + A.length + L2.length < 520 by omega) (upd_y rfl), ob3_e, e3, e4, upd_upd, upd_upd, show s + A.length + L2.length + 1 = s + (A.length + L2.length + 1) by omega, show s' + A.length + L2.length + 1 = s' + (A.length + L2.length + 1) by omega]
          exact ih
        · refine hbad (Nat.le_refl _) w1 (x1 := y1) (x2 := y2) (p := p) (q := q) ?_ ?_ w4 w5 w6 w7
          · rw [g6, ob4_e, if_neg (by decide), w2, ob4_e, if_pos rfl]
          · rw [g7, ob6_e, w3, ob6_e]
      · refine hbad (Nat.le_succ _) g1 (x1 := x1) (x2 := x2) (p := p) (q := q) ?_ ?_ g4 g5 g6 g7
        · rw [g2, ob4_e, if_pos rfl]
        · rw [g3, ob6_e, hW tx a2 p q code2 value2 codes2 (by omega), ob6_e]
    · refine Or.inl ⟨A, a1, hA, by omega, s2, by omega, h4, h5, ?_, ?_⟩
      · rw [ux]; simp (disch := omega) only [b_X1_readsMoreTruths_2, f_X10_take, b_X10_take_0, s3, q38, neg_nI, lit_nI, nI_add, pk_mul, pk_sub, nI_clamp, inB_nI, gd_true, bnd_def, nI_leI, nI_ltI, nI_eq, nI_mI, mI_nI, nle_T, nle_F, nlt_T, nlt_F, neq_T, neq_F, ↓reduceIte, Nat.add_zero, Nat.zero_add, Nat.mul_zero, Nat.reduceAdd, Nat.reduceMul, Nat.reduceSub, ob1_e, ob2_e, ob3_e, ob4_e, ob6_e]
      · rw [uy]; simp (disch := omega) only [b_X12_goOnOr_0, s4, q38, neg_nI, lit_nI, nI_add, pk_mul, pk_sub, nI_clamp, inB_nI, gd_true, bnd_def, nI_leI, nI_ltI, nI_eq, nI_mI, mI_nI, nle_T, nle_F, nlt_T, nlt_F, neq_T, neq_F, ↓reduceIte, Nat.add_zero, Nat.zero_add, Nat.mul_zero, Nat.reduceAdd, Nat.reduceMul, Nat.reduceSub, ob1_e, ob2_e, ob3_e, ob4_e, ob6_e]
theorem mt_o (hn : n ≤ 240) (h : RT n t u) {dp h0 B0 : Nat} (hI : OKF n t u llT FU GU dp h0 B0) (hM : OKA n t u llT FM GA dp (h0 + 1) (h0 + 1) (B0 + 1)) (hW : IDW n u GA) (hB : B0 ≤ 400) (hB2 : 240 ≤ B0) (hd : dp ≤ 6) : OKA n t u llT (g_X1_readsMoreTruths FC FO FM FU) (g_X12_goOnOr GC GA GO GU) dp (h0 + 2) (h0 + 2) (B0 + 2) := by
  intro a0 a s s' tx hA lc code value codes A ha h0' h1 hs hs' htx hc eA hhA
  have hf := fu_le
  exact mt_l hn h hI hM hW hB hB2 hd hs hs' htx hc (n + 1) a 0 A hA (by omega) ha h0' h1 (by omega) eA hhA fu fu (by omega) (by omega)
/-- what goes on behind a unit: and, or -/
theorem more_o {dp h0 B0 : Nat} (hM : OKA n t u llT FM GA dp (h0 + 1) (h0 + 1) (B0 + 1)) (hO : OKA n t u llT FO GO dp (h0 + 2) (h0 + 2) (B0 + 2)) (hW : IDW n u GO) (hn : n ≤ 240) {a0 a s s' tx hA : Nat} {lc code value codes : Nat → Int32} {A : List Tok} (ha : a ≤ n) (h0' : a0 < a) (h1 : a0 + A.length ≤ a) (hs : s ≤ a0) (hs' : s' ≤ a0) (htx : tx ≤ 4) (hc : codes tx = nI s') (eA : Ex A hA) (hhA : hA ≤ h0 + 1) : OUTL n tx dp s s' a0 (h0 + 2) (B0 + 2) lc code value codes (ob4 (FM (nI n) t llT (nI a) (nI (s + A.length)) (ap cs lc s A) (nI dp)) fun r_6 at7 s8 c9 => if r_6 = nI 0 then some (nI 0, at7, s8, c9) else ob4 (FO (nI n) t llT at7 s8 c9 (nI dp)) fun r_11 at12 s13 c14 => if r_11 = nI 0 then some (nI 0, at12, s13, c14) else some (nI 1, at12, s13, c14)) (ob6 (GA (nI n) (nI tx) u (nI a) (mI 1) (nI dp) (ap tc code (520 * tx + s') A) (ap tv value (520 * tx + s') A) (upd codes tx (nI (s' + A.length)))) fun p w q c2 v3 cc => ob6 (GO (nI n) (nI tx) u p w q c2 v3 cc) fun p w q c2 v3 cc => some (p, w, q, c2, v3, cc)) := by
  rcases hM a0 a s s' tx hA lc code value codes A ha h0' h1 hs hs' htx hc eA hhA with ⟨L2, a3, h6, w1, w2, w3, w4, w5, w6, w7⟩ | ⟨a3, c3, y1, y2, p, q, code3, value3, codes3, w1, w2, w3, w4, w5, w6, w7⟩
  · rcases hO a0 a3 s s' tx h6 lc code value codes L2 w2 w1 w3 hs hs' htx hc w4 (by omega) with ⟨L3, a4, h7, z1, z2, z3, z4, z5, z6, z7⟩ | ⟨a4, c4, y1, y2, p, q, code4, value4, codes4, z1, z2, z3, z4, z5, z6, z7⟩
    · refine Or.inl ⟨L3, a4, h7, z1, z2, z3, z4, z5, ?_, ?_⟩
      · rw [w6, ob4_e, if_neg (by decide), z6, ob4_e, if_neg (by decide)]
      · rw [w7, ob6_e, z7, ob6_e]
    · refine Or.inr ⟨a4, c4, y1, y2, p, q, code4, value4, codes4, z1, ?_, ?_, z4, z5, z6, z7⟩
      · rw [w6, ob4_e, if_neg (by decide), z2, ob4_e, if_pos rfl]
      · rw [w7, ob6_e, z3, ob6_e]
  · refine Or.inr ⟨a3, c3, y1, y2, p, q, code3, value3, codes3, w1, ?_, ?_, w4, by omega, w6, w7⟩
    · rw [w2, ob4_e, if_pos rfl]
    · rw [w3, ob6_e, hW tx a3 p q code3 value3 codes3 (by omega), ob6_e]
theorem cond_o (hn : n ≤ 240) {dp h0 B0 : Nat} (hI : OKF n t u llT FU GU dp h0 B0) (hM : OKA n t u llT FM GA dp (h0 + 1) (h0 + 1) (B0 + 1)) (hO : OKA n t u llT FO GO dp (h0 + 2) (h0 + 2) (B0 + 2)) (hW : IDW n u GA) (hW2 : IDW n u GO) : OKF n t u llT (g_X1_readsCondition FC FO FM FU) (g_X12_condition GC GA GO GU) dp (h0 + 2) (B0 + 2) := by
  intro a s s' tx lc code value codes ha hs hs' htx hc
  rcases hI a s s' tx lc code value codes ha hs hs' htx hc with ⟨L, a2, hh, g1, g2, g3, g4, g5, g6, g7⟩ | ⟨a2, c2, x1, x2, p, q, code2, value2, codes2, g1, g2, g3, g4, g5, g6, g7⟩
  · have := more_o (lc := lc) (code := code) (value := value) hM hO hW2 hn g2 g1 g3 hs hs' htx hc g4 (by omega)
    have ex : g_X1_readsCondition FC FO FM FU (nI n) t llT (nI a) (nI s) lc (nI dp) = ob4 (FM (nI n) t llT (nI a2) (nI (s + L.length)) (ap cs lc s L) (nI dp)) fun r_6 at7 s8 c9 => if r_6 = nI 0 then some (nI 0, at7, s8, c9) else ob4 (FO (nI n) t llT at7 s8 c9 (nI dp)) fun r_11 at12 s13 c14 => if r_11 = nI 0 then some (nI 0, at12, s13, c14) else some (nI 1, at12, s13, c14) := by
      simp (disch := omega) only [g_X1_readsCondition, b_X1_readsCondition_0, g6, neg_nI, lit_nI, nI_add, pk_mul, pk_sub, nI_clamp, inB_nI, gd_true, bnd_def, nI_leI, nI_ltI, nI_eq, nI_mI, mI_nI, nle_T, nle_F, nlt_T, nlt_F, neq_T, neq_F, ↓reduceIte, Nat.add_zero, Nat.zero_add, Nat.mul_zero, Nat.reduceAdd, Nat.reduceMul, Nat.reduceSub, ob1_e, ob2_e, ob3_e, ob4_e, ob6_e]
    have ey : g_X12_condition GC GA GO GU (nI n) (nI tx) u (nI a) (mI 1) (nI dp) code value codes = ob6 (GA (nI n) (nI tx) u (nI a2) (mI 1) (nI dp) (ap tc code (520 * tx + s') L) (ap tv value (520 * tx + s') L) (upd codes tx (nI (s' + L.length)))) fun p w q c2 v3 cc => ob6 (GO (nI n) (nI tx) u p w q c2 v3 cc) fun p w q c2 v3 cc => some (p, w, q, c2, v3, cc) := by
      unfold g_X12_condition b_X12_condition_0
      rw [g7, ob6_e]
    rw [ex, ey]
    exact this
  · refine Or.inr ⟨a2, c2, x1, x2, p, q, code2, value2, codes2, g1, ?_, ?_, g4, by omega, g6, g7⟩
    · simp (disch := omega) only [g_X1_readsCondition, b_X1_readsCondition_0, g2, neg_nI, lit_nI, nI_add, pk_mul, pk_sub, nI_clamp, inB_nI, gd_true, bnd_def, nI_leI, nI_ltI, nI_eq, nI_mI, mI_nI, nle_T, nle_F, nlt_T, nlt_F, neq_T, neq_F, ↓reduceIte, Nat.add_zero, Nat.zero_add, Nat.mul_zero, Nat.reduceAdd, Nat.reduceMul, Nat.reduceSub, ob1_e, ob2_e, ob3_e, ob4_e, ob6_e]
    · unfold g_X12_condition b_X12_condition_0
      rw [g3, ob6_e, hW tx a2 p q code2 value2 codes2 (by omega), ob6_e, hW2 tx a2 p q code2 value2 codes2 (by omega), ob6_e]
theorem OKF.mono {fx : FX} {fy : FY} {dp hh B hh' B' : Nat} (h : OKF n t u llT fx fy dp hh B) (h1 : hh ≤ hh') (h2 : B ≤ B') : OKF n t u llT fx fy dp hh' B' := by
  intro a s s' tx lc code value codes ha hs hs' htx hc
  rcases h a s s' tx lc code value codes ha hs hs' htx hc with ⟨L, a2, hh, g1, g2, g3, g4, g5, g6⟩ | ⟨a2, c2, x1, x2, p, q, code2, value2, codes2, g1, g2, g3, g4, g5, g6⟩
  · exact Or.inl ⟨L, a2, hh, g1, g2, g3, g4, by omega, g6⟩
  · exact Or.inr ⟨a2, c2, x1, x2, p, q, code2, value2, codes2, g1, g2, g3, g4, by omega, g6⟩
theorem and_W (d' : Nat) (h : 1 ≤ d') : IDW n u (f_X12_goOnAnd d') := by
  obtain ⟨d', rfl⟩ : ∃ e, d' = e + 1 := ⟨d' - 1, by omega⟩
  exact and_w (GC := f_X12_condition d') (GA := f_X12_goOnAnd d') (GO := f_X12_goOnOr d') (GU := f_X12_unit d')
theorem or_W (d' : Nat) (h : 1 ≤ d') : IDW n u (f_X12_goOnOr d') := by
  obtain ⟨d', rfl⟩ : ∃ e, d' = e + 1 := ⟨d' - 1, by omega⟩
  exact or_w (GC := f_X12_condition d') (GA := f_X12_goOnAnd d') (GO := f_X12_goOnOr d') (GU := f_X12_unit d')
theorem mu_d (hn : n ≤ 240) (h : RT n t u) {K dp h0 B0 : Nat} (hd : dp ≤ 6) (hB : B0 ≤ 400) (hB2 : 240 ≤ B0) (hU : ∀ d d', K ≤ d → K ≤ d' → OKF n t u llT (f_X1_readsUnit d) (f_X12_unit d') dp h0 B0) : ∀ d d', K + 1 ≤ d → K + 1 ≤ d' → OKA n t u llT (f_X1_readsMoreUnits d) (f_X12_goOnAnd d') dp (h0 + 1) (h0 + 1) (B0 + 1) := by
  intro d d' hd1 hd2
  obtain ⟨d, rfl⟩ : ∃ e, d = e + 1 := ⟨d - 1, by omega⟩
  obtain ⟨d', rfl⟩ : ∃ e, d' = e + 1 := ⟨d' - 1, by omega⟩
  exact mu_o (FC := f_X1_readsCondition d) (FO := f_X1_readsMoreTruths d) (FM := f_X1_readsMoreUnits d) (FU := f_X1_readsUnit d) (GC := f_X12_condition d') (GA := f_X12_goOnAnd d') (GO := f_X12_goOnOr d') (GU := f_X12_unit d') hn h (hU d d' (by omega) (by omega)) hB hB2 hd
theorem mt_d (hn : n ≤ 240) (h : RT n t u) {K dp h0 B0 : Nat} (hK : 1 ≤ K) (hd : dp ≤ 6) (hB : B0 ≤ 400) (hB2 : 240 ≤ B0) (hU : ∀ d d', K ≤ d → K ≤ d' → OKF n t u llT (f_X1_readsUnit d) (f_X12_unit d') dp h0 B0) : ∀ d d', K + 2 ≤ d → K + 2 ≤ d' → OKA n t u llT (f_X1_readsMoreTruths d) (f_X12_goOnOr d') dp (h0 + 2) (h0 + 2) (B0 + 2) := by
  intro d d' hd1 hd2
  obtain ⟨d, rfl⟩ : ∃ e, d = e + 1 := ⟨d - 1, by omega⟩
  obtain ⟨d', rfl⟩ : ∃ e, d' = e + 1 := ⟨d' - 1, by omega⟩
  exact mt_o (FC := f_X1_readsCondition d) (FO := f_X1_readsMoreTruths d) (FM := f_X1_readsMoreUnits d) (FU := f_X1_readsUnit d) (GC := f_X12_condition d') (GA := f_X12_goOnAnd d') (GO := f_X12_goOnOr d') (GU := f_X12_unit d') hn h (hU d d' (by omega) (by omega)) (mu_d hn h hd hB hB2 hU d d' (by omega) (by omega)) (and_W d' (by omega)) hB hB2 hd
theorem co_d (hn : n ≤ 240) (h : RT n t u) {K dp h0 B0 : Nat} (hK : 1 ≤ K) (hd : dp ≤ 6) (hB : B0 ≤ 400) (hB2 : 240 ≤ B0) (hU : ∀ d d', K ≤ d → K ≤ d' → OKF n t u llT (f_X1_readsUnit d) (f_X12_unit d') dp h0 B0) : ∀ d d', K + 3 ≤ d → K + 3 ≤ d' → OKF n t u llT (f_X1_readsCondition d) (f_X12_condition d') dp (h0 + 2) (B0 + 2) := by
  intro d d' hd1 hd2
  obtain ⟨d, rfl⟩ : ∃ e, d = e + 1 := ⟨d - 1, by omega⟩
  obtain ⟨d', rfl⟩ : ∃ e, d' = e + 1 := ⟨d' - 1, by omega⟩
  exact cond_o (FC := f_X1_readsCondition d) (FO := f_X1_readsMoreTruths d) (FM := f_X1_readsMoreUnits d) (FU := f_X1_readsUnit d) (GC := f_X12_condition d') (GA := f_X12_goOnAnd d') (GO := f_X12_goOnOr d') (GU := f_X12_unit d') hn (hU d d' (by omega) (by omega)) (mu_d hn h hd hB hB2 hU d d' (by omega) (by omega)) (mt_d hn h hK hd hB hB2 hU d d' (by omega) (by omega)) (and_W d' (by omega)) (or_W d' (by omega))
theorem unit_d (hn : n ≤ 240) (h : RT n t u) (tb : LT6 llT) : ∀ (k dp : Nat), dp + k = 6 → ∀ d d', 4 * k + 1 ≤ d → 4 * k + 1 ≤ d' → OKF n t u llT (f_X1_readsUnit d) (f_X12_unit d') dp (2 * (6 - dp) + 4) (240 + 10 * (6 - dp) + 3)
  | 0, dp, hk, d, d', hd, hd' => by
    obtain ⟨d, rfl⟩ : ∃ e, d = e + 1 := ⟨d - 1, by omega⟩
    obtain ⟨d', rfl⟩ : ∃ e, d' = e + 1 := ⟨d' - 1, by omega⟩
    exact unit_o (FC := f_X1_readsCondition d) (FO := f_X1_readsMoreTruths d) (FM := f_X1_readsMoreUnits d) (FU := f_X1_readsUnit d) (GC := f_X12_condition d') (GA := f_X12_goOnAnd d') (GO := f_X12_goOnOr d') (GU := f_X12_unit d') hn h tb (by omega) (fun q => by omega) (fun q => by omega)
  | k + 1, dp, hk, d, d', hd, hd' => by
    obtain ⟨d, rfl⟩ : ∃ e, d = e + 1 := ⟨d - 1, by omega⟩
    obtain ⟨d', rfl⟩ : ∃ e, d' = e + 1 := ⟨d' - 1, by omega⟩
    have hU := unit_d hn h tb k (dp + 1) (by omega)
    have hC := co_d hn h (by omega) (by omega) (by omega) (by omega) hU d d' (by omega) (by omega)
    exact unit_o (FC := f_X1_readsCondition d) (FO := f_X1_readsMoreTruths d) (FM := f_X1_readsMoreUnits d) (FU := f_X1_readsUnit d) (GC := f_X12_condition d') (GA := f_X12_goOnAnd d') (GO := f_X12_goOnOr d') (GU := f_X12_unit d') hn h tb (by omega) (fun _ => (hU d d' (by omega) (by omega)).mono (by omega) (by omega)) (fun _ => hC.mono (by omega) (by omega))
theorem cond60 (hn : n ≤ 240) (h : RT n t u) (tb : LT6 llT) : OKF n t u llT (f_X1_readsCondition 60) (f_X12_condition 60) 0 18 305 := co_d hn h (by omega) (by omega) (by omega) (by omega) (unit_d hn h tb 6 0 (by omega)) 60 60 (by omega) (by omega)
theorem and60 (hn : n ≤ 240) (h : RT n t u) (tb : LT6 llT) : OKA n t u llT (f_X1_readsMoreUnits 60) (f_X12_goOnAnd 60) 0 17 17 304 := mu_d hn h (by omega) (by omega) (by omega) (unit_d hn h tb 6 0 (by omega)) 60 60 (by omega) (by omega)
theorem or60 (hn : n ≤ 240) (h : RT n t u) (tb : LT6 llT) : OKA n t u llT (f_X1_readsMoreTruths 60) (f_X12_goOnOr 60) 0 18 18 305 := mt_d hn h (by omega) (by omega) (by omega) (by omega) (unit_d hn h tb 6 0 (by omega)) 60 60 (by omega) (by omega)
end CP
