/-! a law is taken by both; a fault is told by both -/
theorem WR_cong {tf sf st tf' sf' st' : Nat → Int32} : ∀ (A : List Cl) (p o : Nat), WR tf sf st p o A → (∀ i, p ≤ i → i < p + A.length → tf' i = tf i ∧ sf' i = sf i ∧ st' i = st i) → WR tf' sf' st' p o A
  | [], _, _, _, _ => trivial
  | D :: A, p, o, h, hi => by
    have hl : (D :: A).length = A.length + 1 := rfl
    rw [hl] at hi
    obtain ⟨⟨h1, h2, h3⟩, h4⟩ := h
    obtain ⟨j1, j2, j3⟩ := hi p (by omega) (by omega)
    exact ⟨⟨by rw [j1, h1], by rw [j2, h2], by rw [j3, h3]⟩, WR_cong A (p + 1) _ h4 (fun i a b => hi i (by omega) (by omega))⟩
theorem LawK_frm {k tx : Nat} {arK ll mc mv mo mk mt ms mu mc2 mv2 mo2 mk2 mt2 ms2 mu2 : Nat → Int32} (hk : k < tx) (h : LawK k arK ll mc mv mk mt ms mu) (hF : FRM tx mc mv mo mk mt ms mu mc2 mv2 mo2 mk2 mt2 ms2 mu2) : LawK k arK ll mc2 mv2 mk2 mt2 ms2 mu2 := by
  obtain ⟨CS, h1, h2, h3, h4, h5, h6, h7, h8, h9, h10⟩ := h
  obtain ⟨f1, f2, f3⟩ := hF
  refine ⟨CS, h1, h2, h3, h4, h5, h6, by rw [(f2 k (by omega)).2, h7], WR_cong CS _ _ h8 (fun i a b => f3 i (Or.inl (by omega))), Rd_cong _ _ h9 (fun j a b => (f1 j (Or.inl (by omega))).1), Rd_cong _ _ h10 (fun j a b => (f1 j (Or.inl (by omega))).2)⟩
theorem RLw_frm {N tx : Nat} {ll l0 l1 l2 l3 mc mv mo mk mt ms mu mc2 mv2 mo2 mk2 mt2 ms2 mu2 : Nat → Int32} (hN : N ≤ tx) (h : RLw N ll l0 l1 l2 l3 mc mv mk mt ms mu) (hF : FRM tx mc mv mo mk mt ms mu mc2 mv2 mo2 mk2 mt2 ms2 mu2) : RLw N ll l0 l1 l2 l3 mc2 mv2 mk2 mt2 ms2 mu2 := ⟨h.1, fun k hk => LawK_frm (by omega) (h.2 k hk) hF⟩
/-- what the text of a law does, reading and taking -/
noncomputable def hd_takeLaw (tape_bytes : Nat → Int32) (llT : Nat → Int32) (tape_length : Int32) (tape_at : Int32) (lr_size : Int32) (lr_code : Nat → Int32) (laws_size : Int32) (laws_lengths : Nat → Int32) (laws_c0 : Nat → Int32) (laws_c1 : Nat → Int32) (laws_c2 : Nat → Int32) (laws_c3 : Nat → Int32) : Option (Int32 × Int32 × Int32 × Int32 × (Nat → Int32) × Int32 × (Nat → Int32) × (Nat → Int32) × (Nat → Int32) × (Nat → Int32) × (Nat → Int32)) :=
  ob1 (f_X2_isFull laws_size) fun r_1 =>
  if r_1 = (0 : Int32) then
    ob4 (f_X1_readsAll tape_length tape_bytes llT tape_at lr_size lr_code) fun r_3 tape_at_4 lr_size_5 lr_code_6 =>
    if r_3 = (0 : Int32) then
      some ((-1 : Int32), tape_length, tape_at_4, lr_size_5, lr_code_6, laws_size, laws_lengths, laws_c0, laws_c1, laws_c2, laws_c3)
    else
      ob6 (f_X2_add lr_code_6 241 laws_size laws_lengths laws_c0 laws_c1 laws_c2 laws_c3 lr_size_5) fun laws_size_8 laws_lengths_9 laws_c0_10 laws_c1_11 laws_c2_12 laws_c3_13 =>
      some ((laws_size_8 - (1 : Int32)), (0 : Int32), tape_at_4, lr_size_5, lr_code_6, laws_size_8, laws_lengths_9, laws_c0_10, laws_c1_11, laws_c2_12, laws_c3_13)
  else
    some ((-1 : Int32), tape_length, tape_at, lr_size, lr_code, laws_size, laws_lengths, laws_c0, laws_c1, laws_c2, laws_c3)
section TL
variable {n : Nat} {t u llT plT pmT puT : Nat → Int32}
theorem full_n {N : Nat} (h : N < 4) : f_X2_isFull (nI N) = some (nI 0) := by
  simp (disch := omega) only [f_X2_isFull, b_X2_isFull_0, neg_nI, lit_nI, nI_add, pk_mul, pk_sub, nI_clamp, inB_nI, gd_true, bnd_def, nI_leI, nI_ltI, nI_eq, nI_mI, mI_nI, nle_T, nle_F, nlt_T, nlt_F, neq_T, neq_F, ↓reduceIte, Nat.add_zero, Nat.zero_add, Nat.mul_zero, Nat.reduceAdd, Nat.reduceMul, Nat.reduceSub, ob1_e, ob2_e, ob3_e, ob4_e, ob6_e]
theorem full_y : f_X2_isFull (nI 4) = some (nI 1) := by
  simp (disch := omega) only [f_X2_isFull, b_X2_isFull_0, neg_nI, lit_nI, nI_add, pk_mul, pk_sub, nI_clamp, inB_nI, gd_true, bnd_def, nI_leI, nI_ltI, nI_eq, nI_mI, mI_nI, nle_T, nle_F, nlt_T, nlt_F, neq_T, neq_F, ↓reduceIte, Nat.add_zero, Nat.zero_add, Nat.mul_zero, Nat.reduceAdd, Nat.reduceMul, Nat.reduceSub, ob1_e, ob2_e, ob3_e, ob4_e, ob6_e]
theorem add_c {N len : Nat} (h : N < 4) (hl : len ≤ 241) (lc ll l0 l1 l2 l3 : Nat → Int32) : f_X2_add lc 241 (nI N) ll l0 l1 l2 l3 (nI len) = some (nI (N + 1), upd ll N (nI len), (if N = 0 then va_cpy lc l0 0 0 len else l0), (if N = 1 then va_cpy lc l1 0 0 len else l1), (if N = 2 then va_cpy lc l2 0 0 len else l2), (if N = 3 then va_cpy lc l3 0 0 len else l3)) := by
  have hN : N = 0 ∨ N = 1 ∨ N = 2 ∨ N = 3 := by omega
  rcases hN with rfl | rfl | rfl | rfl
  · simp (disch := omega) only [f_X2_add, b_X2_add_0, full_n, spB_c, neg_nI, lit_nI, nI_add, pk_mul, pk_sub, nI_clamp, inB_nI, gd_true, bnd_def, nI_leI, nI_ltI, nI_eq, nI_mI, mI_nI, nle_T, nle_F, nlt_T, nlt_F, neq_T, neq_F, ↓reduceIte, Nat.add_zero, Nat.zero_add, Nat.mul_zero, Nat.reduceAdd, Nat.reduceMul, Nat.reduceSub, ob1_e, ob2_e, ob3_e, ob4_e, ob6_e]
  · simp (disch := omega) only [f_X2_add, b_X2_add_0, full_n, spB_c, neg_nI, lit_nI, nI_add, pk_mul, pk_sub, nI_clamp, inB_nI, gd_true, bnd_def, nI_leI, nI_ltI, nI_eq, nI_mI, mI_nI, nle_T, nle_F, nlt_T, nlt_F, neq_T, neq_F, ↓reduceIte, Nat.add_zero, Nat.zero_add, Nat.mul_zero, Nat.reduceAdd, Nat.reduceMul, Nat.reduceSub, ob1_e, ob2_e, ob3_e, ob4_e, ob6_e]
  · simp (disch := omega) only [f_X2_add, b_X2_add_0, full_n, spB_c, neg_nI, lit_nI, nI_add, pk_mul, pk_sub, nI_clamp, inB_nI, gd_true, bnd_def, nI_leI, nI_ltI, nI_eq, nI_mI, mI_nI, nle_T, nle_F, nlt_T, nlt_F, neq_T, neq_F, ↓reduceIte, Nat.add_zero, Nat.zero_add, Nat.mul_zero, Nat.reduceAdd, Nat.reduceMul, Nat.reduceSub, ob1_e, ob2_e, ob3_e, ob4_e, ob6_e]
  · simp (disch := omega) only [f_X2_add, b_X2_add_0, full_n, spB_c, neg_nI, lit_nI, nI_add, pk_mul, pk_sub, nI_clamp, inB_nI, gd_true, bnd_def, nI_leI, nI_ltI, nI_eq, nI_mI, mI_nI, nle_T, nle_F, nlt_T, nlt_F, neq_T, neq_F, ↓reduceIte, Nat.add_zero, Nat.zero_add, Nat.mul_zero, Nat.reduceAdd, Nat.reduceMul, Nat.reduceSub, ob1_e, ob2_e, ob3_e, ob4_e, ob6_e]
/-- a law is taken -/
theorem s_takeLaw (hn : n ≤ 240) (h : RT n t u) (tb : LT6 llT) {N : Nat} {ll l0 l1 l2 l3 mc mv mk mt ms mu : Nat → Int32} (hL : RLw N ll l0 l1 l2 l3 mc mv mk mt ms mu) (x1 x2 y1 y2 y3 y4 : Int32) (lc mo : Nat → Int32) (hN : N < 4) : ∃ r N' n' a' s' lc' ll' c0 c1 c2 c3 p1 p2 p3 p4 mc' mv' mo' mk' mt' ms' mu', hd_takeLaw t llT (nI n) x1 x2 lc (nI N) ll l0 l1 l2 l3 = some (r, nI n', a', s', lc', nI N', ll', c0, c1, c2, c3) ∧ f_X12_readLaw (nI n) u y1 y2 y3 y4 mc mv mo mk mt ms mu (nI N) = some (p1, p2, p3, p4, nI N, mc', mv', mo', mk', mt', ms', mu') ∧ RLw N' ll' c0 c1 c2 c3 mc' mv' mk' mt' ms' mu' ∧ ((p1 = mI 1 ∧ r = nI N ∧ N' = N + 1 ∧ n' = 0) ∨ (p1 ≠ mI 1 ∧ r = mI 1 ∧ N' = N ∧ n' = n)) := by
  rcases s_readLaw hn h tb (tx := N) (by omega) x1 x2 y1 y2 y3 y4 lc mc mv mo mk mt ms mu with ⟨CS, mo2, mk2, mt2, ms2, mu2, g1, g2, g3, g4, g5, g6, g7, g8, g9⟩ | ⟨a, z1, z2, p, q, mc2, mv2, mo2, mk2, mt2, ms2, mu2, g1, g2, g3, g4⟩
  · refine ⟨nI N, N + 1, 0, nI n, nI (XS CS).length, ap cs lc 0 (XS CS), upd ll N (nI (XS CS).length), (if N = 0 then va_cpy (ap cs lc 0 (XS CS)) l0 0 0 (XS CS).length else l0), (if N = 1 then va_cpy (ap cs lc 0 (XS CS)) l1 0 0 (XS CS).length else l1), (if N = 2 then va_cpy (ap cs lc 0 (XS CS)) l2 0 0 (XS CS).length else l2), (if N = 3 then va_cpy (ap cs lc 0 (XS CS)) l3 0 0 (XS CS).length else l3), _, _, _, _, _, _, _, _, _, _, _, ?_, g6, ⟨by omega, fun k hk => ?_⟩, Or.inl ⟨rfl, rfl, rfl, rfl⟩⟩
    · unfold hd_takeLaw
      rw [full_n hN, ob1_e, if_pos (show nI 0 = (0 : Int32) from rfl), g5, ob4_e, if_neg (show ¬ nI 1 = (0 : Int32) by decide), add_c hN (by omega), ob6_e, lit_nI, pk_sub (by omega), Nat.add_sub_cancel]
      rfl
    · by_cases e : k = N
      · subst e
        refine ⟨CS, g1, g2, g3, g4, upd_y rfl, ?_, g7, g8, Rd_ap _ _ _ _, Rd_ap _ _ _ _⟩
        have hr := Rd_ap cs (XS CS) lc 0
        refine Rd_cong _ _ hr (fun j a b => ?_)
        have hk4 : k = 0 ∨ k = 1 ∨ k = 2 ∨ k = 3 := by omega
        rcases hk4 with rfl | rfl | rfl | rfl <;> exact cpy0 (by omega)
      · have hl := LawK_frm (tx := N) (by omega) (hL.2 k (by omega)) g9
        obtain ⟨CS', h1, h2, h3, h4, h5, h6, h7⟩ := hl
        refine ⟨CS', h1, h2, h3, h4, by rw [upd_n e]; exact h5, ?_, h7⟩
        have hp : pick k (if N = 0 then va_cpy (ap cs lc 0 (XS CS)) l0 0 0 (XS CS).length else l0) (if N = 1 then va_cpy (ap cs lc 0 (XS CS)) l1 0 0 (XS CS).length else l1) (if N = 2 then va_cpy (ap cs lc 0 (XS CS)) l2 0 0 (XS CS).length else l2) (if N = 3 then va_cpy (ap cs lc 0 (XS CS)) l3 0 0 (XS CS).length else l3) = pick k l0 l1 l2 l3 := by
          unfold pick
          by_cases k0 : k = 0
          · rw [if_pos k0, if_pos k0, if_neg (by omega)]
          rw [if_neg k0, if_neg k0]
          by_cases k1 : k = 1
          · rw [if_pos k1, if_pos k1, if_neg (by omega)]
          rw [if_neg k1, if_neg k1]
          by_cases k2 : k = 2
          · rw [if_pos k2, if_pos k2, if_neg (by omega)]
          · omega
        rw [hp]
        exact h6
  · refine ⟨mI 1, N, n, nI a, z1, z2, ll, l0, l1, l2, l3, _, _, _, _, _, _, _, _, _, _, _, ?_, g3, RLw_frm (Nat.le_refl _) hL g4, Or.inr ⟨nI_nm (by omega), rfl, rfl, rfl⟩⟩
    · unfold hd_takeLaw
      rw [full_n hN, ob1_e, if_pos (show nI 0 = (0 : Int32) from rfl), g2, ob4_e, if_pos (show nI 0 = (0 : Int32) from rfl)]
      rfl
end TL
