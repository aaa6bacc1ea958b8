section
/-! the items of a clause of a peace, by both -/
def RV (kd fr : Nat) (vl ar : Nat → Int32) : Prop := ∀ w, w < mny kd → ar (fr + w) = vl w ∧ ∃ x, x ≤ hg kd w ∧ vl w = nI x
def FrA (kd fr : Nat) (ar ar' : Nat → Int32) : Prop := ∀ i, (i < fr ∨ fr + mny kd ≤ i) → ar' i = ar i
/-- where a reading by the model ended, if the class's ended at a with a fault -/
def BadEnd (n : Nat) (u : Nat → Int32) (a : Nat) (wr : Int32) : Prop := wr = nI a ∨ (wr = mI 1 ∧ ∃ b, 0 < b ∧ b ≤ 255 ∧ b ≠ 59 ∧ f_X12_look (nI n) u (nI a) = some (nI b, nI a))
section IV
variable {n : Nat} {t u plT pmT puT : Nat → Int32} {kd fr : Nat}
theorem RV_upd {kd fr w v : Nat} {vl ar : Nat → Int32} (h : RV kd fr vl ar) (hw : w < mny kd) (hv : v ≤ hg kd w) : RV kd fr (upd vl w (nI v)) (upd ar (fr + w) (nI v)) := by
  intro i hi
  by_cases q : i = w
  · subst q
    rw [upd_y rfl, upd_y rfl]
    exact ⟨rfl, v, hv, rfl⟩
  · rw [upd_n q, upd_n (by omega)]
    exact h i hi
theorem rv_c (hn : n ≤ 240) (h : RT n t u) (tb : TB plT pmT puT) {kd w a : Nat} (hk : kd < 3) (hw : w < mny kd) (ha : a ≤ n) (vl : Nat → Int32) : ∃ a', a' ≤ n ∧ ((f_X6_readsValue (nI n) t pmT (nI a) vl (nI kd) (nI w) = some (nI 0, nI a', vl) ∧ ∃ v, f_X12_number (nI n) u (nI a) (mI 1) (nI 0) (nI (hg kd w)) = some (v, nI a', nI a')) ∨ ∃ v, v ≤ hg kd w ∧ a ≤ a' ∧ f_X6_readsValue (nI n) t pmT (nI a) vl (nI kd) (nI w) = some (nI 1, nI a', upd vl w (nI v)) ∧ f_X12_number (nI n) u (nI a) (mI 1) (nI 0) (nI (hg kd w)) = some (nI v, nI a', mI 1)) := by
  have hm := mny_le kd
  have hh := hg_le kd hk w (by omega)
  have hp : pmT (kd * 4 + w) = nI (hg kd w) := (tb (kd * 4 + w) (by omega)).2.1
  obtain ⟨a', h1, h2, ⟨e1, v, e2⟩ | ⟨v, v1, v2, e1, e2, e3⟩⟩ := num2 hn h ha hh
  · refine ⟨a', h2, Or.inl ⟨?_, v, e2⟩⟩
    simp (disch := omega) only [f_X6_readsValue, b_X6_readsValue_0, e1, neg_nI, lit_nI, nI_add, pk_mul, pk_sub, nI_clamp, inB_nI, gd_true, bnd_def, nI_leI, nI_ltI, nI_eq, nI_mI, mI_nI, nle_T, nle_F, nlt_T, nlt_F, neq_T, neq_F, ↓reduceIte, Nat.add_zero, Nat.zero_add, Nat.mul_zero, Nat.reduceAdd, Nat.reduceMul, Nat.reduceSub, ob1_e, ob2_e, ob3_e, ob4_e, ob6_e]
  · rcases Nat.lt_or_ge (hg kd w) v with q | q
    · obtain ⟨x, e4⟩ := e3 q
      refine ⟨a' - 1, by omega, Or.inl ⟨?_, x, e4⟩⟩
      simp (disch := omega) only [f_X6_readsValue, b_X6_readsValue_0, e1, hp, neg_nI, lit_nI, nI_add, pk_mul, pk_sub, nI_clamp, inB_nI, gd_true, bnd_def, nI_leI, nI_ltI, nI_eq, nI_mI, mI_nI, nle_T, nle_F, nlt_T, nlt_F, neq_T, neq_F, ↓reduceIte, Nat.add_zero, Nat.zero_add, Nat.mul_zero, Nat.reduceAdd, Nat.reduceMul, Nat.reduceSub, ob1_e, ob2_e, ob3_e, ob4_e, ob6_e]
    · refine ⟨a', h2, Or.inr ⟨v, q, h1, ?_, e2 q⟩⟩
      simp (disch := omega) only [f_X6_readsValue, b_X6_readsValue_0, e1, hp, neg_nI, lit_nI, nI_add, pk_mul, pk_sub, nI_clamp, inB_nI, gd_true, bnd_def, nI_leI, nI_ltI, nI_eq, nI_mI, mI_nI, nle_T, nle_F, nlt_T, nlt_F, neq_T, neq_F, ↓reduceIte, Nat.add_zero, Nat.zero_add, Nat.mul_zero, Nat.reduceAdd, Nat.reduceMul, Nat.reduceSub, ob1_e, ob2_e, ob3_e, ob4_e, ob6_e]
theorem io_t (tb : TB plT pmT puT) {kd a : Nat} {c : Int32} (hk : kd < 3) (h : cIs n a c t u) : ∃ r, f_X12_itemOf (nI (chr kd)) c = some r := by
  rcases h with ⟨rfl, _⟩ | ⟨b, b0, b1, b2, rfl, _⟩
  · exact ⟨_, io_m kd hk⟩
  · obtain ⟨r, _, e, _⟩ := io_c tb hk b0 b1
    exact ⟨r, e⟩
theorem it_l (hn : n ≤ 240) (h : RT n t u) (tb : TB plT pmT puT) {kd fr N : Nat} (hk : kd < 3) (hN : fr + mny kd ≤ N) (hN2 : N ≤ 24) : ∀ (j m a a1 : Nat) (c : Int32) (vl ar : Nat → Int32), pc m + j = 5 → m < 16 → SG n t u a a1 c → RV kd fr vl ar → ∀ r, f_X12_itemOf (nI (chr kd)) c = some r → ∀ kx ky, j ≤ kx → j ≤ ky → ∃ a' vl' ar' wr, a' ≤ n ∧ FrA kd fr ar ar' ∧ ((a1 ≤ a' ∧ f_X6_readsItems_19 (nI n) t plT pmT puT kx (nI a) vl (nI kd) (nI m) (nI (pc m)) = some (nI 1, nI a', vl') ∧ f_X12_items_41 (nI n) u N ky (nI a1) (mI 1) ar (nI (chr kd)) (nI fr) (nI m) r = some (nI a', mI 1, ar') ∧ RV kd fr vl' ar') ∨ (f_X6_readsItems_19 (nI n) t plT pmT puT kx (nI a) vl (nI kd) (nI m) (nI (pc m)) = some (nI 0, nI a', vl') ∧ f_X12_items_41 (nI n) u N ky (nI a1) (mI 1) ar (nI (chr kd)) (nI fr) (nI m) r = some (nI a', wr, ar') ∧ BadEnd n u a' wr))
  | 0, m, a, a1, c, vl, ar, hp, hm, hs, hr, r, er, kx, ky, hkx, hky => by
    have := pc_le m hm
    omega
  | j + 1, m, a, a1, c, vl, ar, hp, hm, hs, hr, r, er, kx, ky, hkx, hky => by
    have hpc := pc_le m hm
    have hmn := mny_le kd
    obtain ⟨kx, rfl⟩ : ∃ k, kx = k + 1 := ⟨kx - 1, by omega⟩
    obtain ⟨ky, rfl⟩ : ∃ k, ky = k + 1 := ⟨ky - 1, by omega⟩
    obtain ⟨s1, s2, s3, s4, s5, s6, s7⟩ := hs
    have fr0 : FrA kd fr ar ar := fun i _ => rfl
    rcases s7 with ⟨ec, en⟩ | ⟨b, b0, b1, b2, ec, hb, et, eu⟩
    · subst ec
      rw [io_m kd hk] at er
      obtain rfl : mI 1 = r := Option.some.inj er
      refine ⟨a1, vl, ar, mI 1, s2, fr0, Or.inl ⟨by omega, ?_, ?_, hr⟩⟩
      · simp (disch := omega) only [f_X6_readsItems_19, b_X6_readsItems_19, s3, neg_nI, lit_nI, nI_add, pk_mul, pk_sub, nI_clamp, inB_nI, gd_true, bnd_def, nI_leI, nI_ltI, nI_eq, nI_mI, mI_nI, nle_T, nle_F, nlt_T, nlt_F, neq_T, neq_F, ↓reduceIte, Nat.add_zero, Nat.zero_add, Nat.mul_zero, Nat.reduceAdd, Nat.reduceMul, Nat.reduceSub, ob1_e, ob2_e, ob3_e, ob4_e, ob6_e]
      · simp (disch := omega) only [f_X12_items_41, b_X12_items_41, neg_nI, lit_nI, nI_add, pk_mul, pk_sub, nI_clamp, inB_nI, gd_true, bnd_def, nI_leI, nI_ltI, nI_eq, nI_mI, mI_nI, nle_T, nle_F, nlt_T, nlt_F, neq_T, neq_F, ↓reduceIte, Nat.add_zero, Nat.zero_add, Nat.mul_zero, Nat.reduceAdd, Nat.reduceMul, Nat.reduceSub, ob1_e, ob2_e, ob3_e, ob4_e, ob6_e]
    · subst ec
      by_cases q : b = 59
      · subst q
        rw [io_s kd hk] at er
        obtain rfl : mI 1 = r := Option.some.inj er
        refine ⟨a1, vl, ar, mI 1, s2, fr0, Or.inl ⟨by omega, ?_, ?_, hr⟩⟩
        · simp (disch := omega) only [f_X6_readsItems_19, b_X6_readsItems_19, s3, neg_nI, lit_nI, nI_add, pk_mul, pk_sub, nI_clamp, inB_nI, gd_true, bnd_def, nI_leI, nI_ltI, nI_eq, nI_mI, mI_nI, nle_T, nle_F, nlt_T, nlt_F, neq_T, neq_F, ↓reduceIte, Nat.add_zero, Nat.zero_add, Nat.mul_zero, Nat.reduceAdd, Nat.reduceMul, Nat.reduceSub, ob1_e, ob2_e, ob3_e, ob4_e, ob6_e]
        · simp (disch := omega) only [f_X12_items_41, b_X12_items_41, neg_nI, lit_nI, nI_add, pk_mul, pk_sub, nI_clamp, inB_nI, gd_true, bnd_def, nI_leI, nI_ltI, nI_eq, nI_mI, mI_nI, nle_T, nle_F, nlt_T, nlt_F, neq_T, neq_F, ↓reduceIte, Nat.add_zero, Nat.zero_add, Nat.mul_zero, Nat.reduceAdd, Nat.reduceMul, Nat.reduceSub, ob1_e, ob2_e, ob3_e, ob4_e, ob6_e]
      · obtain ⟨r', i1, i2, i3⟩ := io_c tb hk b0 b1
        rw [i2] at er
        obtain rfl : r' = r := Option.some.inj er
        have hbad : BadEnd n u a1 (mI 1) := Or.inr ⟨rfl, b, b0, b1, q, s6⟩
        rcases i3 with rfl | ⟨w, hw, rfl⟩
        · refine ⟨a1, vl, ar, mI 1, s2, fr0, Or.inr ⟨?_, ?_, hbad⟩⟩
          · simp (disch := omega) only [f_X6_readsItems_19, b_X6_readsItems_19, s3, i1, neg_nI, lit_nI, nI_add, pk_mul, pk_sub, nI_clamp, inB_nI, gd_true, bnd_def, nI_leI, nI_ltI, nI_eq, nI_mI, mI_nI, nle_T, nle_F, nlt_T, nlt_F, neq_T, neq_F, ↓reduceIte, Nat.add_zero, Nat.zero_add, Nat.mul_zero, Nat.reduceAdd, Nat.reduceMul, Nat.reduceSub, ob1_e, ob2_e, ob3_e, ob4_e, ob6_e]
          · simp (disch := omega) only [f_X12_items_41, b_X12_items_41, neg_nI, lit_nI, nI_add, pk_mul, pk_sub, nI_clamp, inB_nI, gd_true, bnd_def, nI_leI, nI_ltI, nI_eq, nI_mI, mI_nI, nle_T, nle_F, nlt_T, nlt_F, neq_T, neq_F, ↓reduceIte, Nat.add_zero, Nat.zero_add, Nat.mul_zero, Nat.reduceAdd, Nat.reduceMul, Nat.reduceSub, ob1_e, ob2_e, ob3_e, ob4_e, ob6_e]
        · have hh := has_c hm (show w < 4 by omega)
          have h8 := hb_c m hm w (by omega)
          have h9 := or_c m hm w (by omega)
          by_cases tw : m.testBit w = true
          · rw [if_pos tw] at hh h8
            refine ⟨a1, vl, ar, mI 1, s2, fr0, Or.inr ⟨?_, ?_, hbad⟩⟩
            · simp (disch := omega) only [f_X6_readsItems_19, b_X6_readsItems_19, s3, i1, h8, neg_nI, lit_nI, nI_add, pk_mul, pk_sub, nI_clamp, inB_nI, gd_true, bnd_def, nI_leI, nI_ltI, nI_eq, nI_mI, mI_nI, nle_T, nle_F, nlt_T, nlt_F, neq_T, neq_F, ↓reduceIte, Nat.add_zero, Nat.zero_add, Nat.mul_zero, Nat.reduceAdd, Nat.reduceMul, Nat.reduceSub, ob1_e, ob2_e, ob3_e, ob4_e, ob6_e]
            · simp (disch := omega) only [f_X12_items_41, b_X12_items_41, hh, neg_nI, lit_nI, nI_add, pk_mul, pk_sub, nI_clamp, inB_nI, gd_true, bnd_def, nI_leI, nI_ltI, nI_eq, nI_mI, mI_nI, nle_T, nle_F, nlt_T, nlt_F, neq_T, neq_F, ↓reduceIte, Nat.add_zero, Nat.zero_add, Nat.mul_zero, Nat.reduceAdd, Nat.reduceMul, Nat.reduceSub, ob1_e, ob2_e, ob3_e, ob4_e, ob6_e]
          · rw [if_neg tw] at hh h8
            obtain ⟨p5, p6⟩ := pc_c m hm w (by omega) (by cases e : m.testBit w with | true => exact absurd e tw | false => rfl)
            have h10 := hi_c kd hk w hw
            have hlt : pc m < 4 := by have := pc_le _ p6; omega
            obtain ⟨a2, r1, ⟨r2, v, r3⟩ | ⟨v, r2, r3, r4, r5⟩⟩ := rv_c hn h tb hk hw (show a1 + 1 ≤ n by omega) vl
            · obtain ⟨ky, rfl⟩ : ∃ k, ky = k + 1 := ⟨ky - 1, by omega⟩
              refine ⟨a2, vl, upd ar (fr + w) v, nI a2, r1, ?_, Or.inr ⟨?_, ?_, Or.inl rfl⟩⟩
              · intro i hi
                rw [upd_n (by omega)]
              · simp (disch := omega) only [f_X6_readsItems_19, b_X6_readsItems_19, s3, i1, h8, h9, r2, neg_nI, lit_nI, nI_add, pk_mul, pk_sub, nI_clamp, inB_nI, gd_true, bnd_def, nI_leI, nI_ltI, nI_eq, nI_mI, mI_nI, nle_T, nle_F, nlt_T, nlt_F, neq_T, neq_F, ↓reduceIte, Nat.add_zero, Nat.zero_add, Nat.mul_zero, Nat.reduceAdd, Nat.reduceMul, Nat.reduceSub, ob1_e, ob2_e, ob3_e, ob4_e, ob6_e]
              · simp (disch := omega) only [f_X12_items_41, b_X12_items_41, b_X12_items_121, hh, h9, h10, r3, neg_nI, lit_nI, nI_add, pk_mul, pk_sub, nI_clamp, inB_nI, gd_true, bnd_def, nI_leI, nI_ltI, nI_eq, nI_mI, mI_nI, nle_T, nle_F, nlt_T, nlt_F, neq_T, neq_F, ↓reduceIte, Nat.add_zero, Nat.zero_add, Nat.mul_zero, Nat.reduceAdd, Nat.reduceMul, Nat.reduceSub, ob1_e, ob2_e, ob3_e, ob4_e, ob6_e]
            · obtain ⟨a3, c3, hs3⟩ := sg_c hn h r1
              obtain ⟨r6, e6⟩ := io_t (n := n) (t := t) (u := u) (a := a3) tb hk hs3.2.2.2.2.2.2
              obtain ⟨a', vl', ar', wr, q1, q2, q3⟩ := it_l hn h tb hk hN hN2 j (m ||| 2 ^ w) a2 a3 c3 (upd vl w (nI v)) (upd ar (fr + w) (nI v)) (by omega) p6 hs3 (RV_upd hr hw r2) r6 e6 kx ky (by omega) (by omega)
              have ex : f_X6_readsItems_19 (nI n) t plT pmT puT (kx + 1) (nI a) vl (nI kd) (nI m) (nI (pc m)) = f_X6_readsItems_19 (nI n) t plT pmT puT kx (nI a2) (upd vl w (nI v)) (nI kd) (nI (m ||| 2 ^ w)) (nI (pc (m ||| 2 ^ w))) := by
                rw [p5]
                rw [show ∀ a b c d e, f_X6_readsItems_19 (nI n) t plT pmT puT (kx + 1) a b c d e = b_X6_readsItems_19 (nI n) t plT pmT puT (f_X6_readsItems_19 (nI n) t plT pmT puT kx) a b c d e from fun _ _ _ _ _ => rfl]
                simp (disch := omega) only [b_X6_readsItems_19, s3, i1, h8, h9, r4, neg_nI, lit_nI, nI_add, pk_mul, pk_sub, nI_clamp, inB_nI, gd_true, bnd_def, nI_leI, nI_ltI, nI_eq, nI_mI, mI_nI, nle_T, nle_F, nlt_T, nlt_F, neq_T, neq_F, ↓reduceIte, Nat.add_zero, Nat.zero_add, Nat.mul_zero, Nat.reduceAdd, Nat.reduceMul, Nat.reduceSub, ob1_e, ob2_e, ob3_e, ob4_e, ob6_e]
              have ey : f_X12_items_41 (nI n) u N (ky + 1) (nI a1) (mI 1) ar (nI (chr kd)) (nI fr) (nI m) (nI w) = f_X12_items_41 (nI n) u N ky (nI a3) (mI 1) (upd ar (fr + w) (nI v)) (nI (chr kd)) (nI fr) (nI (m ||| 2 ^ w)) r6 := by
                rw [show ∀ a b c d e f g, f_X12_items_41 (nI n) u N (ky + 1) a b c d e f g = b_X12_items_41 (nI n) u N (f_X12_items_41 (nI n) u N ky) a b c d e f g from fun _ _ _ _ _ _ _ => rfl]
                simp (disch := omega) only [b_X12_items_41, b_X12_items_121, hh, h9, h10, r5, hs3.2.2.2.1, e6, neg_nI, lit_nI, nI_add, pk_mul, pk_sub, nI_clamp, inB_nI, gd_true, bnd_def, nI_leI, nI_ltI, nI_eq, nI_mI, mI_nI, nle_T, nle_F, nlt_T, nlt_F, neq_T, neq_F, ↓reduceIte, Nat.add_zero, Nat.zero_add, Nat.mul_zero, Nat.reduceAdd, Nat.reduceMul, Nat.reduceSub, ob1_e, ob2_e, ob3_e, ob4_e, ob6_e]
              rw [ex, ey]
              refine ⟨a', vl', ar', wr, q1, ?_, ?_⟩
              · intro i hi
                rw [q2 i hi, upd_n (by omega)]
              · have ha3 := hs3.1
                rcases q3 with ⟨g1, g2⟩ | g
                · exact Or.inl ⟨by omega, g2⟩
                · exact Or.inr g
theorem us_3 {N : Nat} {a wr : Int32} (hk : kd < 3) (hN : fr + mny kd ≤ N) (hN2 : N ≤ 24) : ∀ (j k : Nat) (ar : Nat → Int32), k + j = mny kd → (∀ w, w < k → ar (fr + w) = nI (us kd w)) → ∀ fu', j < fu' → ∃ ar', (∀ w, w < mny kd → ar' (fr + w) = nI (us kd w)) ∧ FrA kd fr ar ar' ∧ f_X12_items_3 (nI n) u N fu' a wr ar (nI (chr kd)) (nI fr) (nI (mny kd)) (nI k) = ob2 (f_X12_look (nI n) u a) fun r a' => ob1 (f_X12_itemOf (nI (chr kd)) r) fun r' => f_X12_items_41 (nI n) u N fu a' wr ar' (nI (chr kd)) (nI fr) (nI 0) r'
  | 0, k, ar, hj, ha, f + 1, hf => by
    have := mny_le kd
    refine ⟨ar, fun w hw => ha w (by omega), fun i _ => rfl, ?_⟩
    rw [show ∀ a b c d e g i, f_X12_items_3 (nI n) u N (f + 1) a b c d e g i = b_X12_items_3 (nI n) u N (f_X12_items_3 (nI n) u N f) a b c d e g i from fun _ _ _ _ _ _ _ => rfl]
    simp (disch := omega) only [b_X12_items_3, neg_nI, lit_nI, nI_add, pk_mul, pk_sub, nI_clamp, inB_nI, gd_true, bnd_def, nI_leI, nI_ltI, nI_eq, nI_mI, mI_nI, nle_T, nle_F, nlt_T, nlt_F, neq_T, neq_F, ↓reduceIte, Nat.add_zero, Nat.zero_add, Nat.mul_zero, Nat.reduceAdd, Nat.reduceMul, Nat.reduceSub]
  | j + 1, k, ar, hj, ha, f + 1, hf => by
    have := mny_le kd
    obtain ⟨ar', h1, h2, h3⟩ := us_3 (a := a) (wr := wr) hk hN hN2 j (k + 1) (upd ar (fr + k) (nI (us kd k))) (by omega) (fun w hw => by
      by_cases q : w = k
      · subst q; rw [upd_y rfl]
      · rw [upd_n (by omega)]; exact ha w (by omega)) f (by omega)
    refine ⟨ar', h1, fun i hi => by rw [h2 i hi, upd_n (by omega)], ?_⟩
    rw [← h3]
    have h4 := uu_c kd hk k (by omega)
    rw [show ∀ a b c d e g i, f_X12_items_3 (nI n) u N (f + 1) a b c d e g i = b_X12_items_3 (nI n) u N (f_X12_items_3 (nI n) u N f) a b c d e g i from fun _ _ _ _ _ _ _ => rfl]
    simp (disch := omega) only [b_X12_items_3, h4, neg_nI, lit_nI, nI_add, pk_mul, pk_sub, nI_clamp, inB_nI, gd_true, bnd_def, nI_leI, nI_ltI, nI_eq, nI_mI, mI_nI, nle_T, nle_F, nlt_T, nlt_F, neq_T, neq_F, ↓reduceIte, Nat.add_zero, Nat.zero_add, Nat.mul_zero, Nat.reduceAdd, Nat.reduceMul, Nat.reduceSub, ob1_e, ob2_e, ob3_e, ob4_e, ob6_e]
theorem items_c (hn : n ≤ 240) (h : RT n t u) (tb : TB plT pmT puT) {kd fr N a : Nat} (hk : kd < 3) (hN : fr + mny kd ≤ N) (hN2 : N ≤ 24) (ha : a ≤ n) (vl ar : Nat → Int32) : ∃ a' vl' ar' wr, a' ≤ n ∧ FrA kd fr ar ar' ∧ ((a ≤ a' ∧ f_X6_readsItems (nI n) t plT pmT puT (nI a) vl (nI kd) = some (nI 1, nI a', vl') ∧ f_X12_items (nI n) u N (nI a) (mI 1) ar (nI (chr kd)) (nI fr) (nI (mny kd)) = some (nI a', mI 1, ar') ∧ RV kd fr vl' ar') ∨ (f_X6_readsItems (nI n) t plT pmT puT (nI a) vl (nI kd) = some (nI 0, nI a', vl') ∧ f_X12_items (nI n) u N (nI a) (mI 1) ar (nI (chr kd)) (nI fr) (nI (mny kd)) = some (nI a', wr, ar') ∧ BadEnd n u a' wr)) := by
  have hm := mny_le kd
  have hf := fu_le
  obtain ⟨a1, c, hs⟩ := sg_c hn h ha
  obtain ⟨r, er⟩ := io_t (n := n) (t := t) (u := u) (a := a1) tb hk hs.2.2.2.2.2.2
  obtain ⟨ar1, h1, h2, h3⟩ := us_3 (n := n) (u := u) (a := nI a) (wr := mI 1) hk hN hN2 (mny kd) 0 ar (by omega) (fun w hw => by omega) fu (by omega)
  rw [hs.2.2.2.1, ob2_e, er, ob1_e] at h3
  have hr : RV kd fr (va_cpy puT vl (kd * 4) 0 4) ar1 := by
    intro w hw
    rw [h1 w hw, show va_cpy puT vl (kd * 4) 0 4 w = puT (kd * 4 + w) by rw [pk_cpy_in (by omega) (by omega)]; rfl, (tb (kd * 4 + w) (by omega)).2.2]
    exact ⟨rfl, us kd w, us_le kd hk w hw, rfl⟩
  obtain ⟨a', vl', ar', wr, q1, q2, q3⟩ := it_l hn h tb hk hN hN2 5 0 a a1 c _ ar1 rfl (by omega) hs hr r er fu fu (by omega) (by omega)
  have ex : f_X6_readsItems (nI n) t plT pmT puT (nI a) vl (nI kd) = f_X6_readsItems_19 (nI n) t plT pmT puT fu (nI a) (va_cpy puT vl (kd * 4) 0 4) (nI kd) (nI 0) (nI (pc 0)) := by
    rw [show pc 0 = 0 from rfl]
    simp (disch := omega) only [f_X6_readsItems, b_X6_readsItems_0, spB_c, neg_nI, lit_nI, nI_add, pk_mul, pk_sub, nI_clamp, inB_nI, gd_true, bnd_def, nI_leI, nI_ltI, nI_eq, nI_mI, mI_nI, nle_T, nle_F, nlt_T, nlt_F, neq_T, neq_F, ↓reduceIte, Nat.add_zero, Nat.zero_add, Nat.mul_zero, Nat.reduceAdd, Nat.reduceMul, Nat.reduceSub, ob1_e, ob2_e, ob3_e, ob4_e, ob6_e]
  have ey : f_X12_items (nI n) u N (nI a) (mI 1) ar (nI (chr kd)) (nI fr) (nI (mny kd)) = _ := h3
  rw [ex, ey]
  refine ⟨a', vl', ar', wr, q1, fun i hi => by rw [q2 i hi, h2 i hi], ?_⟩
  have := hs.1
  rcases q3 with ⟨g1, g2⟩ | g
  · exact Or.inl ⟨by omega, g2⟩
  · exact Or.inr g
end IV
end
section
/-! a peace is read by both -/
def in1 (v : Int32) (k : Nat) : Prop := ∃ x, x ≤ k ∧ v = nI x
def RP (G M : Nat) (pd cn : Int32) (ho fe st af we ne rr rg rm : Nat → Int32) : Prop := G ≤ 6 ∧ M ≤ 5 ∧ (rr 0 = pd ∧ in1 pd 9) ∧ (rr 1 = cn ∧ in1 cn 99) ∧ (∀ g, g < G → (rg (4 * g) = ho g ∧ in1 (ho g) 1) ∧ (rg (4 * g + 1) = fe g ∧ in1 (fe g) 9) ∧ (rg (4 * g + 2) = st g ∧ in1 (st g) 9) ∧ (rg (4 * g + 3) = af g ∧ in1 (af g) 3)) ∧ (∀ m, m < M → (rm (2 * m) = we m ∧ in1 (we m) 9) ∧ (rm (2 * m + 1) = ne m ∧ in1 (ne m) 60))
def wm (ho : Nat → Int32) (k : Nat) : Nat := (if 0 < cnt ho (nI 0) k then 1 else 0) + (if 0 < cnt ho (nI 1) k then 2 else 0)
theorem wm_lt (ho : Nat → Int32) (k : Nat) : wm ho k < 4 := by unfold wm; split <;> split <;> omega
theorem wm_s {ho : Nat → Int32} {k x : Nat} (hx : x ≤ 1) (e : ho k = nI x) : wm ho (k + 1) = (wm ho k ||| 2 ^ x) := by
  unfold wm
  obtain rfl | rfl : x = 0 ∨ x = 1 := by omega
  · rw [cnt_y e, cnt_n (h := nI 1) (by rw [e]; decide), if_pos (by omega)]
    by_cases q1 : 0 < cnt ho (nI 0) k <;> by_cases q2 : 0 < cnt ho (nI 1) k <;> simp only [q1, q2, ↓reduceIte] <;> rfl
  · rw [cnt_y e, cnt_n (h := nI 0) (by rw [e]; decide), if_pos (show 0 < cnt ho (nI 1) k + 1 by omega)]
    by_cases q1 : 0 < cnt ho (nI 0) k <;> by_cases q2 : 0 < cnt ho (nI 1) k <;> simp only [q1, q2, ↓reduceIte] <;> rfl
theorem wm_3 (ho : Nat → Int32) (k : Nat) : wm ho k = 3 ↔ 0 < cnt ho (nI 0) k ∧ 0 < cnt ho (nI 1) k := by
  unfold wm
  by_cases q1 : 0 < cnt ho (nI 0) k <;> by_cases q2 : 0 < cnt ho (nI 1) k <;> simp [q1, q2]
theorem wh_l {G : Nat} {ho rg : Nat → Int32} (hG : G ≤ 6) (h : ∀ g, g < G → rg (4 * g) = ho g ∧ in1 (ho g) 1) : ∀ (j k n : Nat), k + j = G → j < n → f_X12_isWhole_4 (nI G) rg n (nI (wm ho k)) (nI k) = some (if 0 < cnt ho (nI 0) G ∧ 0 < cnt ho (nI 1) G then nI 1 else nI 0)
  | 0, k, n + 1, hk, hn => by
    obtain rfl : k = G := by omega
    have := wm_lt ho k
    by_cases q : 0 < cnt ho (nI 0) k ∧ 0 < cnt ho (nI 1) k
    · have e := (wm_3 ho k).mpr q
      simp (disch := omega) only [f_X12_isWhole_4, b_X12_isWhole_4, e, if_pos q, and_self, neg_nI, lit_nI, nI_add, pk_mul, pk_sub, nI_clamp, inB_nI, gd_true, bnd_def, nI_leI, nI_ltI, nI_eq, nI_mI, mI_nI, nle_T, nle_F, nlt_T, nlt_F, neq_T, neq_F, ↓reduceIte, Nat.add_zero, Nat.zero_add, Nat.mul_zero, Nat.reduceAdd, Nat.reduceMul, Nat.reduceSub]
    · have e : wm ho k ≠ 3 := fun e => q ((wm_3 ho k).mp e)
      simp (disch := omega) only [f_X12_isWhole_4, b_X12_isWhole_4, if_neg q, neg_nI, lit_nI, nI_add, pk_mul, pk_sub, nI_clamp, inB_nI, gd_true, bnd_def, nI_leI, nI_ltI, nI_eq, nI_mI, mI_nI, nle_T, nle_F, nlt_T, nlt_F, neq_T, neq_F, ↓reduceIte, Nat.add_zero, Nat.zero_add, Nat.mul_zero, Nat.reduceAdd, Nat.reduceMul, Nat.reduceSub]
  | j + 1, k, n + 1, hk, hn => by
    obtain ⟨e1, x, hx, e2⟩ := h k (by omega)
    have ih := wh_l hG h j (k + 1) n (by omega) (by omega)
    rw [wm_s hx e2] at ih
    rw [← ih]
    have := wm_lt ho k
    have e3 := or_c (wm ho k) (by omega) x (by omega)
    have e4 : rg (4 * k) = nI x := by rw [e1, e2]
    rw [show ∀ a b, f_X12_isWhole_4 (nI G) rg (n + 1) a b = b_X12_isWhole_4 (nI G) rg (f_X12_isWhole_4 (nI G) rg n) a b from fun _ _ => rfl]
    simp (disch := omega) only [b_X12_isWhole_4, e3, e4, neg_nI, lit_nI, nI_add, pk_mul, pk_sub, nI_clamp, inB_nI, gd_true, bnd_def, nI_leI, nI_ltI, nI_eq, nI_mI, mI_nI, nle_T, nle_F, nlt_T, nlt_F, neq_T, neq_F, ↓reduceIte, Nat.add_zero, Nat.zero_add, Nat.mul_zero, Nat.reduceAdd, Nat.reduceMul, Nat.reduceSub]
theorem wh_c {G : Nat} {ho rg : Nat → Int32} (hG : G ≤ 6) (h : ∀ g, g < G → rg (4 * g) = ho g ∧ in1 (ho g) 1) : f_X12_isWhole (nI G) rg = some (if 0 < cnt ho (nI 0) G ∧ 0 < cnt ho (nI 1) G then nI 1 else nI 0) := wh_l hG h G 0 fu (by omega) (by have := fu_le; omega)
abbrev CT : Type := Int32 × Int32 × Int32 × (Nat → Int32) × Int32 × Int32 × Int32 × Int32 × (Nat → Int32) × (Nat → Int32) × (Nat → Int32) × (Nat → Int32) × (Nat → Int32) × (Nat → Int32)
abbrev MT : Type := Int32 × Int32 × Int32 × Int32 × Int32 × (Nat → Int32) × (Nat → Int32) × (Nat → Int32)
def POg (n : Nat) (x : Option CT) (y : Option MT) : Prop := ∃ (ru : Nat) (vl : Nat → Int32) (G M : Nat) (pd cn : Int32) (ho fe st af we ne rr rg rm : Nat → Int32), x = some (nI 1, nI n, nI ru, vl, nI G, nI M, pd, cn, ho, fe, st, af, we, ne) ∧ y = some (mI 1, nI n, mI 1, nI G, nI M, rr, rg, rm) ∧ ru ≤ 1 ∧ RP G M pd cn ho fe st af we ne rr rg rm ∧ 0 < cnt ho (nI 0) G ∧ 0 < cnt ho (nI 1) G
def POb (n : Nat) (x : Option CT) (y : Option MT) : Prop := ∃ (a ru : Nat) (vl : Nat → Int32) (G M pd cn : Int32) (ho fe st af we ne : Nat → Int32) (G' M' : Int32) (rr rg rm : Nat → Int32), a ≤ n ∧ ru ≤ 1 ∧ x = some (nI 0, nI a, nI ru, vl, G, M, pd, cn, ho, fe, st, af, we, ne) ∧ y = some (nI a, nI a, nI a, G', M', rr, rg, rm)
def PO (n : Nat) (x : Option CT) (y : Option MT) : Prop := POg n x y ∨ POb n x y
section PE
variable {n : Nat} {t u plT pmT puT : Nat → Int32}
/-- a fault: both end -/
theorem pe_b (hn : n ≤ 240) {a2 : Nat} {wr G M : Int32} {rr rg rm : Nat → Int32} {v1 : Int32} {ky : Nat} (ha : a2 ≤ n) (hb : BadEnd n u a2 wr) : b_X12_readPeace_213 (nI n) u (f_X12_readPeace_49 (nI n) u (ky + 1)) (nI a2) wr G M rr rg rm v1 = some (nI a2, nI a2, nI a2, G, M, rr, rg, rm) := by
  rcases hb with rfl | ⟨rfl, b, b0, b1, b2, e⟩
  · simp (disch := omega) only [b_X12_readPeace_213, b_X12_readPeace_234, b_X12_readPeace_235, b_X12_readPeace_250, f_X12_readPeace_49, b_X12_readPeace_49, b_X12_readPeace_257, b_X12_readPeace_284, neg_nI, lit_nI, nI_add, pk_mul, pk_sub, nI_clamp, inB_nI, gd_true, bnd_def, nI_leI, nI_ltI, nI_eq, nI_mI, mI_nI, nle_T, nle_F, nlt_T, nlt_F, neq_T, neq_F, ↓reduceIte, Nat.add_zero, Nat.zero_add, Nat.mul_zero, Nat.reduceAdd, Nat.reduceMul, Nat.reduceSub, ob1_e, ob2_e, ob3_e, ob4_e, ob6_e]
  · simp (disch := omega) only [b_X12_readPeace_213, b_X12_readPeace_234, b_X12_readPeace_235, b_X12_readPeace_250, f_X12_readPeace_49, b_X12_readPeace_49, b_X12_readPeace_257, b_X12_readPeace_284, b_X12_readPeace_280, e, bad_n, neg_nI, lit_nI, nI_add, pk_mul, pk_sub, nI_clamp, inB_nI, gd_true, bnd_def, nI_leI, nI_ltI, nI_eq, nI_mI, mI_nI, nle_T, nle_F, nlt_T, nlt_F, neq_T, neq_F, ↓reduceIte, Nat.add_zero, Nat.zero_add, Nat.mul_zero, Nat.reduceAdd, Nat.reduceMul, Nat.reduceSub, ob1_e, ob2_e, ob3_e, ob4_e, ob6_e]
theorem pe_t (hn : n ≤ 240) (h : RT n t u) {a cl a2 ru G M : Nat} {vl : Nat → Int32} {pd cn : Int32} {ho fe st af we ne rr rg rm : Nat → Int32} {k49 : Int32 → Int32 → Int32 → Int32 → (Nat → Int32) → (Nat → Int32) → (Nat → Int32) → Int32 → Int32 → Option MT} {x0 : Int32} {kx ky : Nat}
   (hc : cl ≤ a) (ha : a ≤ a2) (ha2 : a2 ≤ n) (hru : ru ≤ 1) (hR : RP G M pd cn ho fe st af we ne rr rg rm)
   (ih : ∀ a3, a2 < a3 → a3 ≤ n → PO n (f_X6_readsAll_55 (nI n) t plT pmT puT kx (nI a3) (nI ru) vl (nI G) (nI M) pd cn ho fe st af we ne (nI (cl + 1))) (f_X12_readPeace_49 (nI n) u (ky + 1) (nI a3) (mI 1) (nI G) (nI M) rr rg rm (nI ru) (nI 1))) :
   PO n (ob2 (f_X10_sign (nI n) t (nI a2)) fun r_16 tape_at_17 =>
      if r_16 = (-1 : Int32) then
        ob1 (f_X5_sizeOf (nI G) ho (0 : Int32)) fun r_23 =>
        if r_23 ≤ (0 : Int32) then
          some ((0 : Int32), tape_at_17, nI ru, vl, nI G, nI M, pd, cn, ho, fe, st, af, we, ne)
        else
          ob1 (f_X5_sizeOf (nI G) ho (1 : Int32)) fun r_25 =>
          if r_25 ≤ (0 : Int32) then
            some ((0 : Int32), tape_at_17, nI ru, vl, nI G, nI M, pd, cn, ho, fe, st, af, we, ne)
          else
            some ((1 : Int32), tape_at_17, nI ru, vl, nI G, nI M, pd, cn, ho, fe, st, af, we, ne)
      else
        ob2 (f_X10_take (nI n) t tape_at_17 (59 : Int32)) fun r_19 tape_at_20 =>
        if r_19 = (0 : Int32) then
          some ((0 : Int32), tape_at_20, nI ru, vl, nI G, nI M, pd, cn, ho, fe, st, af, we, ne)
        else
          bnd (nI cl + (1 : Int32)) fun v1_22 =>
          f_X6_readsAll_55 (nI n) t plT pmT puT kx tape_at_20 (nI ru) vl (nI G) (nI M) pd cn ho fe st af we ne v1_22)
     (b_X12_readPeace_213 (nI n) u (f_X12_readPeace_49 (nI n) u (ky + 1)) (nI a2) (mI 1) (nI G) (nI M) rr rg rm (nI ru)) := by
  obtain ⟨a3, c, s1, s2, s3, s4, s5, s6, s7⟩ := sg_c hn h ha2
  have hG := hR.1
  have l0 := cnt_le ho (nI 0) G
  have l1 := cnt_le ho (nI 1) G
  rcases s7 with ⟨ec, en⟩ | ⟨b, b0, b1, b2, ec, hb, et, eu⟩
  · subst ec
    subst en
    have w := wh_c hG (fun g hg => (hR.2.2.2.2.1 g hg).1)
    by_cases q : 0 < cnt ho (nI 0) G ∧ 0 < cnt ho (nI 1) G
    · rw [if_pos q] at w
      obtain ⟨q0, q1⟩ := q
      refine Or.inl ⟨ru, vl, G, M, pd, cn, ho, fe, st, af, we, ne, rr, rg, rm, ?_, ?_, hru, hR, q0, q1⟩
      · simp (disch := omega) only [s3, sizeX_c hG, neg_nI, lit_nI, nI_add, pk_mul, pk_sub, nI_clamp, inB_nI, gd_true, bnd_def, nI_leI, nI_ltI, nI_eq, nI_mI, mI_nI, nle_T, nle_F, nlt_T, nlt_F, neq_T, neq_F, ↓reduceIte, Nat.add_zero, Nat.zero_add, Nat.mul_zero, Nat.reduceAdd, Nat.reduceMul, Nat.reduceSub, ob1_e, ob2_e, ob3_e, ob4_e, ob6_e]
      · simp (disch := omega) only [b_X12_readPeace_213, b_X12_readPeace_234, b_X12_readPeace_235, b_X12_readPeace_250, f_X12_readPeace_49, b_X12_readPeace_49, b_X12_readPeace_257, b_X12_readPeace_284, b_X12_readPeace_280, s4, s6, w, bad_n, neg_nI, lit_nI, nI_add, pk_mul, pk_sub, nI_clamp, inB_nI, gd_true, bnd_def, nI_leI, nI_ltI, nI_eq, nI_mI, mI_nI, nle_T, nle_F, nlt_T, nlt_F, neq_T, neq_F, ↓reduceIte, Nat.add_zero, Nat.zero_add, Nat.mul_zero, Nat.reduceAdd, Nat.reduceMul, Nat.reduceSub, ob1_e, ob2_e, ob3_e, ob4_e, ob6_e]
    · rw [if_neg q] at w
      refine Or.inr ⟨a3, ru, vl, nI G, nI M, pd, cn, ho, fe, st, af, we, ne, nI G, nI M, rr, rg, rm, by omega, hru, ?_, ?_⟩
      · by_cases q0 : 0 < cnt ho (nI 0) G
        · have q1 : cnt ho (nI 1) G = 0 := by omega
          simp (disch := omega) only [s3, sizeX_c hG, q1, neg_nI, lit_nI, nI_add, pk_mul, pk_sub, nI_clamp, inB_nI, gd_true, bnd_def, nI_leI, nI_ltI, nI_eq, nI_mI, mI_nI, nle_T, nle_F, nlt_T, nlt_F, neq_T, neq_F, ↓reduceIte, Nat.add_zero, Nat.zero_add, Nat.mul_zero, Nat.reduceAdd, Nat.reduceMul, Nat.reduceSub, ob1_e, ob2_e, ob3_e, ob4_e, ob6_e]
        · have q1 : cnt ho (nI 0) G = 0 := by omega
          simp (disch := omega) only [s3, sizeX_c hG, q1, neg_nI, lit_nI, nI_add, pk_mul, pk_sub, nI_clamp, inB_nI, gd_true, bnd_def, nI_leI, nI_ltI, nI_eq, nI_mI, mI_nI, nle_T, nle_F, nlt_T, nlt_F, neq_T, neq_F, ↓reduceIte, Nat.add_zero, Nat.zero_add, Nat.mul_zero, Nat.reduceAdd, Nat.reduceMul, Nat.reduceSub, ob1_e, ob2_e, ob3_e, ob4_e, ob6_e]
      · simp (disch := omega) only [b_X12_readPeace_213, b_X12_readPeace_234, b_X12_readPeace_235, b_X12_readPeace_250, f_X12_readPeace_49, b_X12_readPeace_49, b_X12_readPeace_257, b_X12_readPeace_284, b_X12_readPeace_280, s4, s6, w, bad_n, neg_nI, lit_nI, nI_add, pk_mul, pk_sub, nI_clamp, inB_nI, gd_true, bnd_def, nI_leI, nI_ltI, nI_eq, nI_mI, mI_nI, nle_T, nle_F, nlt_T, nlt_F, neq_T, neq_F, ↓reduceIte, Nat.add_zero, Nat.zero_add, Nat.mul_zero, Nat.reduceAdd, Nat.reduceMul, Nat.reduceSub, ob1_e, ob2_e, ob3_e, ob4_e, ob6_e]
  · subst ec
    by_cases q : b = 59
    · subst q
      have i1 := ih (a3 + 1) (by omega) (by omega)
      simp (disch := omega) only [s3, f_X10_take, b_X10_take_0, s5, b_X12_readPeace_213, b_X12_readPeace_235, b_X12_readPeace_250, s4, neg_nI, lit_nI, nI_add, pk_mul, pk_sub, nI_clamp, inB_nI, gd_true, bnd_def, nI_leI, nI_ltI, nI_eq, nI_mI, mI_nI, nle_T, nle_F, nlt_T, nlt_F, neq_T, neq_F, ↓reduceIte, Nat.add_zero, Nat.zero_add, Nat.mul_zero, Nat.reduceAdd, Nat.reduceMul, Nat.reduceSub, ob1_e, ob2_e, ob3_e, ob4_e, ob6_e]
      exact i1
    · refine Or.inr ⟨a3, ru, vl, nI G, nI M, pd, cn, ho, fe, st, af, we, ne, nI G, nI M, rr, rg, rm, by omega, hru, ?_, ?_⟩
      · simp (disch := omega) only [s3, f_X10_take, b_X10_take_0, s5, neg_nI, lit_nI, nI_add, pk_mul, pk_sub, nI_clamp, inB_nI, gd_true, bnd_def, nI_leI, nI_ltI, nI_eq, nI_mI, mI_nI, nle_T, nle_F, nlt_T, nlt_F, neq_T, neq_F, ↓reduceIte, Nat.add_zero, Nat.zero_add, Nat.mul_zero, Nat.reduceAdd, Nat.reduceMul, Nat.reduceSub, ob1_e, ob2_e, ob3_e, ob4_e, ob6_e]
      · simp (disch := omega) only [b_X12_readPeace_213, b_X12_readPeace_234, b_X12_readPeace_235, b_X12_readPeace_250, f_X12_readPeace_49, b_X12_readPeace_49, b_X12_readPeace_257, b_X12_readPeace_284, b_X12_readPeace_280, s4, s6, bad_n, neg_nI, lit_nI, nI_add, pk_mul, pk_sub, nI_clamp, inB_nI, gd_true, bnd_def, nI_leI, nI_ltI, nI_eq, nI_mI, mI_nI, nle_T, nle_F, nlt_T, nlt_F, neq_T, neq_F, ↓reduceIte, Nat.add_zero, Nat.zero_add, Nat.mul_zero, Nat.reduceAdd, Nat.reduceMul, Nat.reduceSub, ob1_e, ob2_e, ob3_e, ob4_e, ob6_e]
end PE
end
