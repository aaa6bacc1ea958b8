/-! the match of a day -/
def thE (th c : Nat → Int32) (t : Nat) : Int32 := if th t = nI 0 ∧ c (54 + t) = mI 1 then nI 0 else nI 1
theorem thE_y {th c : Nat → Int32} {t : Nat} (h1 : th t = nI 0) (h2 : c (54 + t) = mI 1) : thE th c t = nI 0 := by unfold thE; rw [if_pos ⟨h1, h2⟩]
theorem thE_n {th c : Nat → Int32} {t : Nat} (h : ¬ (th t = nI 0 ∧ c (54 + t) = mI 1)) : ¬ thE th c t = nI 0 := by unfold thE; rw [if_neg h]; decide
theorem thE_i {th c : Nat → Int32} {t : Nat} (h : thE th c t = nI 0) : th t = nI 0 ∧ c (54 + t) = mI 1 := by
  by_cases e : th t = nI 0 ∧ c (54 + t) = mI 1
  · exact e
  · exact absurd h (thE_n e)
def UNM (R : R6) (G : Nat) (th ta c un ri : Nat → Int32) (a : Nat) : Prop := ∀ t, t < a → thE th c t = nI 0 → un (cnt (thE th c) (nI 0) t) = nI t ∧ ∀ o, o < G → ¬ th t = th o → ri (t * 6 + o) = rv R ta c t o (c (pl t o)) (c 68)
def DV (G : Nat) (th : Nat → Int32) : Nat → Nat → Prop
  | 0, _ => True
  | p + 1, r => (r % 10 = 9 ∨ (r % 10 < G ∧ th (r % 10) = nI 1)) ∧ DV G th p (r / 10)
section MA
variable {R : R6} {lh : Int32} {ll l0 l1 l2 l3 : Nat → Int32} {mh : Int32} {mc mv mk mt ms mu : Nat → Int32}
variable {G M : Nat} {th ta mg c m : Nat → Int32}
theorem solve_in (hX : RiseX R lh ll l0 l1 l2 l3) (hG : G ≤ 6) {a : Nat} (ha : a < G) {sz bs br fd : Int32} {un : Nat → Int32} {k7 : (Nat → Int32) → (Nat → Int32) → Int32 → Int32 → Int32 → Int32 → (Nat → Int32) → (Nat → Int32) → Int32 → Option ((Nat → Int32) × (Nat → Int32) × Int32 × Int32 × Int32 × Int32 × (Nat → Int32) × (Nat → Int32))} : ∀ (j b n : Nat) (lt st ri : Nat → Int32), b + j = G → j < n → ∃ lt' st' ri', f_X4_solve_60 (nI G) th ta lh ll l0 l1 l2 l3 c k7 n lt st sz bs br fd un ri (nI a) (nI b) = k7 lt' st' sz bs br fd un ri' (nI (a + 1)) ∧ (∀ o, b ≤ o → o < G → ¬ th a = th o → ri' (a * 6 + o) = rv R ta c a o (c (pl a o)) (c 68)) ∧ (∀ i, i < a * 6 + b ∨ a * 6 + G ≤ i → ri' i = ri i) := by
  intro j
  induction j with
  | zero =>
    intro b n lt st ri hb h1
    obtain ⟨n, rfl⟩ : ∃ q, n = q + 1 := ⟨n - 1, by omega⟩
    refine ⟨lt, st, ri, ?_, fun o h2 h3 => by omega, fun _ _ => rfl⟩
    simp (disch := omega) only [f_X4_solve_60, b_X4_solve_60, b_X4_solve_110, neg_nI, lit_nI, nI_add, pk_mul, pk_sub, nI_clamp, inB_nI, gd_true, bnd_def, nI_leI, nI_ltI, nI_eq, nI_mI, mI_nI, nle_T, nle_F, nlt_T, nlt_F, neq_T, neq_F, ↓reduceIte, Nat.add_zero, Nat.zero_add, Nat.mul_zero, Nat.reduceAdd, Nat.reduceMul, Nat.reduceSub, ob1_e, ob2_e, ob3_e, ob4_e, ob6_e]
  | succ j ih =>
    intro b n lt st ri hb h1
    obtain ⟨n, rfl⟩ : ∃ q, n = q + 1 := ⟨n - 1, by omega⟩
    by_cases ht : th a = th b
    · obtain ⟨lt', st', ri', e1, e2, e3⟩ := ih (b + 1) n lt st (upd ri (a * 6 + b) (nI 0)) (by omega) (by omega)
      refine ⟨lt', st', ri', ?_, fun o h2 h3 h4 => ?_, fun i hi => ?_⟩
      · rw [← e1]
        simp (disch := omega) only [f_X4_solve_60, b_X4_solve_60, b_X4_solve_103, unlike_c, ht, neg_nI, lit_nI, nI_add, pk_mul, pk_sub, nI_clamp, inB_nI, gd_true, bnd_def, nI_leI, nI_ltI, nI_eq, nI_mI, mI_nI, nle_T, nle_F, nlt_T, nlt_F, neq_T, neq_F, ↓reduceIte, Nat.add_zero, Nat.zero_add, Nat.mul_zero, Nat.reduceAdd, Nat.reduceMul, Nat.reduceSub, ob1_e, ob2_e, ob3_e, ob4_e, ob6_e]
      · by_cases e : o = b
        · rw [e] at h4
          exact absurd ht h4
        · exact e2 o (by omega) h3 h4
      · rw [e3 i (by omega), upd_n (by omega)]
    · obtain ⟨lt1, st1, er⟩ := riseOf_c hX (ta := ta) (c := c) (lt := lt) (st := st) (g := a) (o := b) ⟨by omega, by omega⟩
      obtain ⟨lt', st', ri', e1, e2, e3⟩ := ih (b + 1) n lt1 st1 (upd ri (a * 6 + b) (rv R ta c a b (c (pl a b)) (c 68))) (by omega) (by omega)
      refine ⟨lt', st', ri', ?_, fun o h2 h3 h4 => ?_, fun i hi => ?_⟩
      · rw [← e1]
        simp (disch := omega) only [f_X4_solve_60, b_X4_solve_60, b_X4_solve_103, unlike_c, ht, er, neg_nI, lit_nI, nI_add, pk_mul, pk_sub, nI_clamp, inB_nI, gd_true, bnd_def, nI_leI, nI_ltI, nI_eq, nI_mI, mI_nI, nle_T, nle_F, nlt_T, nlt_F, neq_T, neq_F, ↓reduceIte, Nat.add_zero, Nat.zero_add, Nat.mul_zero, Nat.reduceAdd, Nat.reduceMul, Nat.reduceSub, ob1_e, ob2_e, ob3_e, ob4_e, ob6_e]
      · by_cases e : o = b
        · rw [e, e3 _ (by omega), upd_y rfl]
        · exact e2 o (by omega) h3 h4
      · rw [e3 i (by omega), upd_n (by omega)]
theorem solve_out (hX : RiseX R lh ll l0 l1 l2 l3) (hG : G ≤ 6) {bs br fd : Int32} : ∀ (j a n : Nat) (lt st un ri : Nat → Int32), a + j = G → j < n → UNM R G th ta c un ri a → ∃ lt' st' un' ri', f_X4_solve_7 (nI G) th ta lh ll l0 l1 l2 l3 c n lt st (nI (cnt (thE th c) (nI 0) a)) bs br fd un ri (nI a) = ob3 (f_X4_search 60 (nI G) th (nI (cnt (thE th c) (nI 0) G)) un' ri' bs br (nI 0) (nI 0) (bbF (pMet c) G 0 (nI 0)) (nI 0) (nI 0)) (fun x y z => some (lt', st', nI (cnt (thE th c) (nI 0) G), x, y, z, un', ri')) ∧ UNM R G th ta c un' ri' G := by
  intro j
  induction j with
  | zero =>
    intro a n lt st un ri ha h1 hU
    obtain ⟨n, rfl⟩ : ∃ q, n = q + 1 := ⟨n - 1, by omega⟩
    have ea : a = G := by omega
    subst ea
    refine ⟨lt, st, un, ri, ?_, hU⟩
    simp (disch := omega) only [f_X4_solve_7, b_X4_solve_7, metBits_c hG, neg_nI, lit_nI, nI_add, pk_mul, pk_sub, nI_clamp, inB_nI, gd_true, bnd_def, nI_leI, nI_ltI, nI_eq, nI_mI, mI_nI, nle_T, nle_F, nlt_T, nlt_F, neq_T, neq_F, ↓reduceIte, Nat.add_zero, Nat.zero_add, Nat.mul_zero, Nat.reduceAdd, Nat.reduceMul, Nat.reduceSub, ob1_e, ob2_e, ob3_e, ob4_e, ob6_e]
  | succ j ih =>
    intro a n lt st un ri ha h1 hU
    obtain ⟨n, rfl⟩ : ∃ q, n = q + 1 := ⟨n - 1, by omega⟩
    have hle := cnt_le (thE th c) (nI 0) a
    by_cases e0 : th a = nI 0
    · by_cases f0 : c (54 + a) = mI 1
      · have ee := thE_y e0 f0
        obtain ⟨lt1, st1, ri1, p1, p2, p3⟩ := solve_in (th := th) (ta := ta) (c := c) hX hG (show a < G by omega) (sz := nI (cnt (thE th c) (nI 0) a + 1)) (bs := bs) (br := br) (fd := fd) (un := upd un (cnt (thE th c) (nI 0) a) (nI a)) (k7 := f_X4_solve_7 (nI G) th ta lh ll l0 l1 l2 l3 c n) G 0 fu lt st ri (by omega) (by have := fu_le; omega)
        have hU2 : UNM R G th ta c (upd un (cnt (thE th c) (nI 0) a) (nI a)) ri1 (a + 1) := by
          intro t ht et
          by_cases e : t = a
          · subst e
            exact ⟨upd_y rfl, fun o ho hn => p2 o (by omega) ho hn⟩
          · have hlt := cnt_lt et (show t < a by omega)
            obtain ⟨q1, q2⟩ := hU t (by omega) et
            refine ⟨by rw [upd_n (by omega)]; exact q1, fun o ho hn => ?_⟩
            rw [p3 _ (by omega)]
            exact q2 o ho hn
        obtain ⟨lt', st', un', ri', e1, e2⟩ := ih (a + 1) n lt1 st1 _ ri1 (by omega) (by omega) hU2
        rw [cnt_y ee] at e1
        refine ⟨lt', st', un', ri', ?_, e2⟩
        rw [← e1, ← p1]
        simp (disch := omega) only [f_X4_solve_7, b_X4_solve_7, e0, hasMet_c, f0, neg_nI, lit_nI, nI_add, pk_mul, pk_sub, nI_clamp, inB_nI, gd_true, bnd_def, nI_leI, nI_ltI, nI_eq, nI_mI, mI_nI, nle_T, nle_F, nlt_T, nlt_F, neq_T, neq_F, ↓reduceIte, Nat.add_zero, Nat.zero_add, Nat.mul_zero, Nat.reduceAdd, Nat.reduceMul, Nat.reduceSub, ob1_e, ob2_e, ob3_e, ob4_e, ob6_e]
      · have ee : ¬ thE th c a = nI 0 := thE_n (fun z => f0 z.2)
        have hU2 : UNM R G th ta c un ri (a + 1) := by
          intro t ht et
          by_cases e : t = a
          · rw [e] at et
            exact absurd et ee
          · exact hU t (by omega) et
        obtain ⟨lt', st', un', ri', e1, e2⟩ := ih (a + 1) n lt st un ri (by omega) (by omega) hU2
        rw [cnt_n ee] at e1
        refine ⟨lt', st', un', ri', ?_, e2⟩
        rw [← e1]
        simp (disch := omega) only [f_X4_solve_7, b_X4_solve_7, b_X4_solve_110, e0, hasMet_c, f0, neg_nI, lit_nI, nI_add, pk_mul, pk_sub, nI_clamp, inB_nI, gd_true, bnd_def, nI_leI, nI_ltI, nI_eq, nI_mI, mI_nI, nle_T, nle_F, nlt_T, nlt_F, neq_T, neq_F, ↓reduceIte, Nat.add_zero, Nat.zero_add, Nat.mul_zero, Nat.reduceAdd, Nat.reduceMul, Nat.reduceSub, ob1_e, ob2_e, ob3_e, ob4_e, ob6_e]
    · have ee : ¬ thE th c a = nI 0 := thE_n (fun z => e0 z.1)
      have hU2 : UNM R G th ta c un ri (a + 1) := by
        intro t ht et
        by_cases e : t = a
        · rw [e] at et
          exact absurd et ee
        · exact hU t (by omega) et
      obtain ⟨lt', st', un', ri', e1, e2⟩ := ih (a + 1) n lt st un ri (by omega) (by omega) hU2
      rw [cnt_n ee] at e1
      refine ⟨lt', st', un', ri', ?_, e2⟩
      rw [← e1]
      simp (disch := omega) only [f_X4_solve_7, b_X4_solve_7, b_X4_solve_110, e0, neg_nI, lit_nI, nI_add, pk_mul, pk_sub, nI_clamp, inB_nI, gd_true, bnd_def, nI_leI, nI_ltI, nI_eq, nI_mI, mI_nI, nle_T, nle_F, nlt_T, nlt_F, neq_T, neq_F, ↓reduceIte, Nat.add_zero, Nat.zero_add, Nat.mul_zero, Nat.reduceAdd, Nat.reduceMul, Nat.reduceSub, ob1_e, ob2_e, ob3_e, ob4_e, ob6_e]
/-- the best row so far, by both: below lo -/
def SR (G : Nat) (th : Nat → Int32) (S lo : Nat) (bs br fd mr ms mf : Int32) : Prop := (fd = nI 0 ∧ mf = nI 0) ∨ (fd = nI 1 ∧ mf = nI 1 ∧ ms = bs ∧ ∃ b, br = nI b ∧ mr = nI b ∧ b < lo ∧ DV G th S b)
theorem srch (hY : RiseY R mh mc mv mk mt ms mu) (hG : G ≤ 6) (hh : ∀ g, g < G → mg (4 * g) = th g) (ha : ∀ g, g < G → mg (4 * g + 3) = ta g) (h01 : ∀ g, g < G → th g = nI 0 ∨ th g = nI 1) (hN : RN G M c m) {un ri : Nat → Int32} (hU : UNM R G th ta c un ri G) : ∀ (j g D D' L lo w r : Nat) (taken gone sum bs br fd mr ms0 mf : Int32) (lt st : Nat → Int32), g + j = G → j + 1 ≤ D → j + 1 ≤ D' → cnt (thE th c) (nI 0) g + L = cnt (thE th c) (nI 0) G → w = 10 ^ L → lo = r * w → lo + w ≤ 1000000 → DV G th (cnt (thE th c) (nI 0) g) r → (∀ o, o < G → bt taken o = (pMet c o || bt gone o)) → SR G th (cnt (thE th c) (nI 0) G) lo bs br fd mr ms0 mf → ∃ bs' b' lt' st', f_X4_search D (nI G) th (nI (cnt (thE th c) (nI 0) G)) un ri bs br fd (nI (cnt (thE th c) (nI 0) g)) taken (nI r) sum = some (bs', nI b', nI 1) ∧ f_X12_tryPairs D' (nI G) mh mc mv mk mt ms mu mg m mr ms0 mf lt st (nI g) gone (nI r) sum = some (nI b', bs', nI 1, lt', st') ∧ b' < lo + w ∧ DV G th (cnt (thE th c) (nI 0) G) b' := by
  have hSle := cnt_le (thE th c) (nI 0) G
  intro j
  induction j with
  | zero =>
    intro g D D' L lo w r taken gone sum bs br fd mr ms0 mf lt st hg hD hD' hL hw hlo h6 hV hB hS
    obtain ⟨D, rfl⟩ : ∃ q, D = q + 1 := ⟨D - 1, by omega⟩
    obtain ⟨D', rfl⟩ : ∃ q, D' = q + 1 := ⟨D' - 1, by omega⟩
    have eg : g = G := by omega
    subst eg
    have eL : L = 0 := by omega
    subst eL
    have ew : w = 1 := hw
    subst ew
    rw [Nat.mul_one] at hlo
    subst hlo
    rcases hS with ⟨rfl, rfl⟩ | ⟨rfl, rfl, rfl, b, rfl, rfl, hb, hbV⟩
    · refine ⟨sum, lo, lt, st, ?_, ?_, by omega, hV⟩
      · show g_X4_search (rc_X4_search D) (nI g) th _ un ri bs br (nI 0) _ taken (nI lo) sum = _
        simp (disch := omega) only [g_X4_search, b_X4_search_0, b_X4_search_14, b_X4_search_30, neg_nI, lit_nI, nI_add, pk_mul, pk_sub, nI_clamp, inB_nI, gd_true, bnd_def, nI_leI, nI_ltI, nI_eq, nI_mI, mI_nI, nle_T, nle_F, nlt_T, nlt_F, neq_T, neq_F, ↓reduceIte, Nat.add_zero, Nat.zero_add, Nat.mul_zero, Nat.reduceAdd, Nat.reduceMul, Nat.reduceSub, ob1_e, ob2_e, ob3_e, ob4_e, ob6_e]
      · show g_X12_tryPairs (rc_X12_tryPairs D') (nI g) mh mc mv mk mt ms mu mg m mr ms0 (nI 0) lt st (nI g) gone (nI lo) sum = _
        simp (disch := omega) only [g_X12_tryPairs, b_X12_tryPairs_0, b_X12_tryPairs_41, neg_nI, lit_nI, nI_add, pk_mul, pk_sub, nI_clamp, inB_nI, gd_true, bnd_def, nI_leI, nI_ltI, nI_eq, nI_mI, mI_nI, nle_T, nle_F, nlt_T, nlt_F, neq_T, neq_F, ↓reduceIte, Nat.add_zero, Nat.zero_add, Nat.mul_zero, Nat.reduceAdd, Nat.reduceMul, Nat.reduceSub, ob1_e, ob2_e, ob3_e, ob4_e, ob6_e]
    · by_cases hs : sum ≤ ms0
      · have hs2 : ¬ ms0 < sum := by rw [le32] at hs; rw [lt32]; omega
        refine ⟨ms0, b, lt, st, ?_, ?_, by omega, hbV⟩
        · show g_X4_search (rc_X4_search D) (nI g) th _ un ri ms0 (nI b) (nI 1) _ taken (nI lo) sum = _
          simp (disch := omega) only [g_X4_search, b_X4_search_0, b_X4_search_14, hs, neg_nI, lit_nI, nI_add, pk_mul, pk_sub, nI_clamp, inB_nI, gd_true, bnd_def, nI_leI, nI_ltI, nI_eq, nI_mI, mI_nI, nle_T, nle_F, nlt_T, nlt_F, neq_T, neq_F, ↓reduceIte, Nat.add_zero, Nat.zero_add, Nat.mul_zero, Nat.reduceAdd, Nat.reduceMul, Nat.reduceSub, ob1_e, ob2_e, ob3_e, ob4_e, ob6_e]
        · show g_X12_tryPairs (rc_X12_tryPairs D') (nI g) mh mc mv mk mt ms mu mg m (nI b) ms0 (nI 1) lt st (nI g) gone (nI lo) sum = _
          by_cases he : sum = ms0
          · subst he
            have hs3 : ¬ sum < sum := by rw [lt32]; omega
            simp (disch := omega) only [g_X12_tryPairs, b_X12_tryPairs_0, hs3, neg_nI, lit_nI, nI_add, pk_mul, pk_sub, nI_clamp, inB_nI, gd_true, bnd_def, nI_leI, nI_ltI, nI_eq, nI_mI, mI_nI, nle_T, nle_F, nlt_T, nlt_F, neq_T, neq_F, ↓reduceIte, Nat.add_zero, Nat.zero_add, Nat.mul_zero, Nat.reduceAdd, Nat.reduceMul, Nat.reduceSub, ob1_e, ob2_e, ob3_e, ob4_e, ob6_e]
          · simp (disch := omega) only [g_X12_tryPairs, b_X12_tryPairs_0, hs2, he, neg_nI, lit_nI, nI_add, pk_mul, pk_sub, nI_clamp, inB_nI, gd_true, bnd_def, nI_leI, nI_ltI, nI_eq, nI_mI, mI_nI, nle_T, nle_F, nlt_T, nlt_F, neq_T, neq_F, ↓reduceIte, Nat.add_zero, Nat.zero_add, Nat.mul_zero, Nat.reduceAdd, Nat.reduceMul, Nat.reduceSub, ob1_e, ob2_e, ob3_e, ob4_e, ob6_e]
      · have hs2 : ms0 < sum := by rw [le32] at hs; rw [lt32]; omega
        refine ⟨sum, lo, lt, st, ?_, ?_, by omega, hV⟩
        · show g_X4_search (rc_X4_search D) (nI g) th _ un ri ms0 (nI b) (nI 1) _ taken (nI lo) sum = _
          simp (disch := omega) only [g_X4_search, b_X4_search_0, b_X4_search_14, b_X4_search_30, hs, neg_nI, lit_nI, nI_add, pk_mul, pk_sub, nI_clamp, inB_nI, gd_true, bnd_def, nI_leI, nI_ltI, nI_eq, nI_mI, mI_nI, nle_T, nle_F, nlt_T, nlt_F, neq_T, neq_F, ↓reduceIte, Nat.add_zero, Nat.zero_add, Nat.mul_zero, Nat.reduceAdd, Nat.reduceMul, Nat.reduceSub, ob1_e, ob2_e, ob3_e, ob4_e, ob6_e]
        · show g_X12_tryPairs (rc_X12_tryPairs D') (nI g) mh mc mv mk mt ms mu mg m (nI b) ms0 (nI 1) lt st (nI g) gone (nI lo) sum = _
          simp (disch := omega) only [g_X12_tryPairs, b_X12_tryPairs_0, b_X12_tryPairs_41, hs2, neg_nI, lit_nI, nI_add, pk_mul, pk_sub, nI_clamp, inB_nI, gd_true, bnd_def, nI_leI, nI_ltI, nI_eq, nI_mI, mI_nI, nle_T, nle_F, nlt_T, nlt_F, neq_T, neq_F, ↓reduceIte, Nat.add_zero, Nat.zero_add, Nat.mul_zero, Nat.reduceAdd, Nat.reduceMul, Nat.reduceSub, ob1_e, ob2_e, ob3_e, ob4_e, ob6_e]
  | succ j ih =>
    intro g D D' L lo w r taken gone sum bs br fd mr ms0 mf lt st hg hD hD' hL hw hlo h6 hV hB hS
    obtain ⟨D', rfl⟩ : ∃ q, D' = q + 1 := ⟨D' - 1, by omega⟩
    have hgl : g < G := by omega
    have g1 := hh g hgl
    have mfr : m (54 + g) = c (54 + g) := hN _ (by omega)
    have hcg := cnt_le (thE th c) (nI 0) g
    by_cases hE : th g = nI 0 ∧ c (54 + g) = mI 1
    · obtain ⟨D, rfl⟩ : ∃ q, D = q + 1 := ⟨D - 1, by omega⟩
      have ee := thE_y hE.1 hE.2
      have hlt := cnt_lt ee hgl
      obtain ⟨L, rfl⟩ : ∃ q, L = q + 1 := ⟨L - 1, by omega⟩
      obtain ⟨u1, u2⟩ := hU g hgl ee
      have hc1 := cnt_y ee
      obtain ⟨w', hw'⟩ : ∃ q, q = 10 ^ L := ⟨_, rfl⟩
      have hww : w = 10 * w' := by rw [hw, hw', Nat.pow_succ, Nat.mul_comm]
      have hwp : 0 < w' := by rw [hw']; exact Nat.pos_of_ne_zero (by simp)
      have hlo2 : ∀ d, (10 * r + d) * w' = lo + d * w' := by
        intro d
        rw [Nat.add_mul, hlo, hww, Nat.mul_comm 10 r, Nat.mul_assoc]
      -- a child of this node
      have child : ∀ (d : Nat) (taken gone sum bs br fd mr ms0 mf : Int32) (lt st : Nat → Int32), d ≤ 9 → (d = 9 ∨ (d < G ∧ th d = nI 1)) → (∀ o, o < G → bt taken o = (pMet c o || bt gone o)) → SR G th (cnt (thE th c) (nI 0) G) (lo + d * w') bs br fd mr ms0 mf → ∃ bs' b' lt' st', rc_X4_search D (nI G) th (nI (cnt (thE th c) (nI 0) G)) un ri bs br fd (nI (cnt (thE th c) (nI 0) g + 1)) taken (nI (10 * r + d)) sum = some (bs', nI b', nI 1) ∧ rc_X12_tryPairs D' (nI G) mh mc mv mk mt ms mu mg m mr ms0 mf lt st (nI (g + 1)) gone (nI (10 * r + d)) sum = some (nI b', bs', nI 1, lt', st') ∧ b' < lo + d * w' + w' ∧ DV G th (cnt (thE th c) (nI 0) G) b' := by
        intro d taken gone sum bs br fd mr ms0 mf lt st hd hd2 hB hS
        have hd9 : d * w' ≤ 9 * w' := Nat.mul_le_mul_right w' hd
        have hV2 : DV G th (cnt (thE th c) (nI 0) (g + 1)) (10 * r + d) := by
          rw [hc1]
          refine ⟨?_, ?_⟩
          · rw [show (10 * r + d) % 10 = d by omega]
            exact hd2
          · rw [show (10 * r + d) / 10 = r by omega]
            exact hV
        have := ih (g + 1) D D' L (lo + d * w') w' (10 * r + d) taken gone sum bs br fd mr ms0 mf lt st (by omega) (by omega) (by omega) (by omega) hw' (hlo2 d).symm (by omega) hV2 hB hS
        rw [hc1] at this
        exact this
      -- the loop over the others
      have loop : ∀ (i o n n' : Nat) (bs br fd mr ms0 mf : Int32) (lt st : Nat → Int32), o + i = G → i < n → i < n' → SR G th (cnt (thE th c) (nI 0) G) (lo + o * w') bs br fd mr ms0 mf → ∃ bs' b' lt' st', f_X4_search_50 (rc_X4_search D) (nI G) th (nI (cnt (thE th c) (nI 0) G)) un ri n bs br fd (nI (cnt (thE th c) (nI 0) g)) taken (nI r) sum (nI o) = some (bs', nI b', nI 1) ∧ f_X12_tryPairs_90 (rc_X12_tryPairs D') (nI G) mh mc mv mk mt ms mu mg m n' mr ms0 mf lt st (nI g) gone (nI r) sum (nI o) = some (nI b', bs', nI 1, lt', st') ∧ b' < lo + w ∧ DV G th (cnt (thE th c) (nI 0) G) b' := by
        intro i
        induction i with
        | zero =>
          intro o n n' bs br fd mr ms0 mf lt st ho h1 h2 hS
          obtain ⟨n, rfl⟩ : ∃ q, n = q + 1 := ⟨n - 1, by omega⟩
          obtain ⟨n', rfl⟩ : ∃ q, n' = q + 1 := ⟨n' - 1, by omega⟩
          have ho9 : o * w' ≤ 9 * w' := Nat.mul_le_mul_right w' (by omega)
          have hS2 : SR G th (cnt (thE th c) (nI 0) G) (lo + 9 * w') bs br fd mr ms0 mf := by
            rcases hS with q | ⟨q1, q2, q3, b, q4, q5, q6, q7⟩
            · exact Or.inl q
            · exact Or.inr ⟨q1, q2, q3, b, q4, q5, by omega, q7⟩
          obtain ⟨bs', b', lt', st', e1, e2, e3, e4⟩ := child 9 taken gone sum bs br fd mr ms0 mf lt st (by omega) (Or.inl rfl) hB hS2
          have er : 10 * r = r * 10 := Nat.mul_comm 10 r
          refine ⟨bs', b', lt', st', ?_, ?_, by omega, e4⟩
          · rw [er] at e1
            simp (disch := omega) only [f_X4_search_50, b_X4_search_50, e1, neg_nI, lit_nI, nI_add, pk_mul, pk_sub, nI_clamp, inB_nI, gd_true, bnd_def, nI_leI, nI_ltI, nI_eq, nI_mI, mI_nI, nle_T, nle_F, nlt_T, nlt_F, neq_T, neq_F, ↓reduceIte, Nat.add_zero, Nat.zero_add, Nat.mul_zero, Nat.reduceAdd, Nat.reduceMul, Nat.reduceSub, ob1_e, ob2_e, ob3_e, ob4_e, ob6_e]
          · simp (disch := omega) only [f_X12_tryPairs_90, b_X12_tryPairs_90, e2, ob5_e, neg_nI, lit_nI, nI_add, pk_mul, pk_sub, nI_clamp, inB_nI, gd_true, bnd_def, nI_leI, nI_ltI, nI_eq, nI_mI, mI_nI, nle_T, nle_F, nlt_T, nlt_F, neq_T, neq_F, ↓reduceIte, Nat.add_zero, Nat.zero_add, Nat.mul_zero, Nat.reduceAdd, Nat.reduceMul, Nat.reduceSub, ob1_e, ob2_e, ob3_e, ob4_e, ob6_e]
        | succ i ihi =>
          intro o n n' bs br fd mr ms0 mf lt st ho h1 h2 hS
          obtain ⟨n, rfl⟩ : ∃ q, n = q + 1 := ⟨n - 1, by omega⟩
          obtain ⟨n', rfl⟩ : ∃ q, n' = q + 1 := ⟨n' - 1, by omega⟩
          have er : 10 * r = r * 10 := Nat.mul_comm 10 r
          have g2 := hh o (by omega)
          have mfo : m (54 + o) = c (54 + o) := hN _ (by omega)
          have hs1 : (o + 1) * w' = o * w' + w' := Nat.succ_mul o w'
          have hSn : ∀ {bs br fd mr ms0 mf : Int32}, SR G th (cnt (thE th c) (nI 0) G) (lo + o * w') bs br fd mr ms0 mf → SR G th (cnt (thE th c) (nI 0) G) (lo + (o + 1) * w') bs br fd mr ms0 mf := by
            intro bs br fd mr ms0 mf hS
            rcases hS with q | ⟨q1, q2, q3, b, q4, q5, q6, q7⟩
            · exact Or.inl q
            · exact Or.inr ⟨q1, q2, q3, b, q4, q5, by omega, q7⟩
          have n01 : ¬ nI 0 = nI 1 := by decide
          have n10 : ¬ nI 1 = nI 0 := by decide
          have hbo := hB o (by omega)
          have e0 := hE.1
          rcases h01 o (by omega) with t0 | t1
          · obtain ⟨bs', b', lt', st', e1, e2, e3, e4⟩ := ihi (o + 1) n n' bs br fd mr ms0 mf lt st (by omega) (by omega) (by omega) (hSn hS)
            refine ⟨bs', b', lt', st', ?_, ?_, e3, e4⟩
            · rw [← e1]
              simp (disch := omega) only [f_X4_search_50, b_X4_search_50, b_X4_search_125, t0, neg_nI, lit_nI, nI_add, pk_mul, pk_sub, nI_clamp, inB_nI, gd_true, bnd_def, nI_leI, nI_ltI, nI_eq, nI_mI, mI_nI, nle_T, nle_F, nlt_T, nlt_F, neq_T, neq_F, ↓reduceIte, Nat.add_zero, Nat.zero_add, Nat.mul_zero, Nat.reduceAdd, Nat.reduceMul, Nat.reduceSub, ob1_e, ob2_e, ob3_e, ob4_e, ob6_e]
            · rw [← e2]
              simp (disch := omega) only [f_X12_tryPairs_90, b_X12_tryPairs_90, b_X12_tryPairs_157, areTwo_c, g1, g2, e0, t0, neg_nI, lit_nI, nI_add, pk_mul, pk_sub, nI_clamp, inB_nI, gd_true, bnd_def, nI_leI, nI_ltI, nI_eq, nI_mI, mI_nI, nle_T, nle_F, nlt_T, nlt_F, neq_T, neq_F, ↓reduceIte, Nat.add_zero, Nat.zero_add, Nat.mul_zero, Nat.reduceAdd, Nat.reduceMul, Nat.reduceSub, ob1_e, ob2_e, ob3_e, ob4_e, ob6_e]
          · by_cases fo : c (54 + o) = mI 1
            · have hpm : pMet c o = false := by unfold pMet; rw [decide_eq_false (fun q => q fo)]
              rw [hpm, Bool.false_or] at hbo
              cases hb : bt gone o with
              | true =>
                rw [hb] at hbo
                obtain ⟨bs', b', lt', st', e1, e2, e3, e4⟩ := ihi (o + 1) n n' bs br fd mr ms0 mf lt st (by omega) (by omega) (by omega) (hSn hS)
                refine ⟨bs', b', lt', st', ?_, ?_, e3, e4⟩
                · rw [← e1]
                  simp (disch := omega) only [f_X4_search_50, b_X4_search_50, b_X4_search_125, t1, bit1, hbo, neg_nI, lit_nI, nI_add, pk_mul, pk_sub, nI_clamp, inB_nI, gd_true, bnd_def, nI_leI, nI_ltI, nI_eq, nI_mI, mI_nI, nle_T, nle_F, nlt_T, nlt_F, neq_T, neq_F, ↓reduceIte, Nat.add_zero, Nat.zero_add, Nat.mul_zero, Nat.reduceAdd, Nat.reduceMul, Nat.reduceSub, ob1_e, ob2_e, ob3_e, ob4_e, ob6_e]
                · rw [← e2]
                  simp (disch := omega) only [f_X12_tryPairs_90, b_X12_tryPairs_90, b_X12_tryPairs_157, areTwo_c, g1, g2, e0, t1, isFree_c, mfo, fo, f_X12_has, b_X12_has_0, bit1, hb, neg_nI, lit_nI, nI_add, pk_mul, pk_sub, nI_clamp, inB_nI, gd_true, bnd_def, nI_leI, nI_ltI, nI_eq, nI_mI, mI_nI, nle_T, nle_F, nlt_T, nlt_F, neq_T, neq_F, ↓reduceIte, Nat.add_zero, Nat.zero_add, Nat.mul_zero, Nat.reduceAdd, Nat.reduceMul, Nat.reduceSub, ob1_e, ob2_e, ob3_e, ob4_e, ob6_e]
              | false =>
                rw [hb] at hbo
                obtain ⟨lt1, st1, er2⟩ := riseOfY_c hY (mg := mg) (m := m) (lt := lt) (st := st) (g := g) (o := o) ⟨by omega, by omega⟩
                have hp := pl_lt (a := g) (b := o) ⟨by omega, by omega⟩
                rw [rv_cong hN ha ⟨hgl, by omega, hG⟩, hN (pl g o) (by omega), hN 68 (by omega)] at er2
                have eri : ri (g * 6 + o) = rv R ta c g o (c (pl g o)) (c 68) := u2 o (by omega) (by rw [e0, t1]; exact n01)
                have hB2 : ∀ q, q < G → bt (taken ||| ((1 : Int32) <<< (nI o &&& nI 31))) q = (pMet c q || bt (gone ||| ((1 : Int32) <<< (nI o &&& nI 31))) q) := by
                  intro q hq
                  rw [b_or, b_or, hB q hq, Bool.or_assoc]
                obtain ⟨bs1, b1, lt2, st2, x1, x2, x3, x4⟩ := child o (taken ||| ((1 : Int32) <<< (nI o &&& nI 31))) (gone ||| ((1 : Int32) <<< (nI o &&& nI 31))) (sum + rv R ta c g o (c (pl g o)) (c 68)) bs br fd mr ms0 mf lt1 st1 (by omega) (Or.inr ⟨by omega, t1⟩) hB2 hS
                obtain ⟨bs', b', lt', st', e1, e2, e3, e4⟩ := ihi (o + 1) n n' bs1 (nI b1) (nI 1) (nI b1) bs1 (nI 1) lt2 st2 (by omega) (by omega) (by omega) (Or.inr ⟨rfl, rfl, rfl, b1, rfl, rfl, by omega, x4⟩)
                have l1 : nI 1 = (1 : Int32) := rfl
                have l31 : nI 31 = (31 : Int32) := rfl
                refine ⟨bs', b', lt', st', ?_, ?_, e3, e4⟩
                · rw [← e1]
                  rw [er, show ((1 : Int32) <<< (nI o &&& nI 31)) = (nI 1 <<< (nI o &&& nI 31)) from rfl] at x1
                  simp (disch := omega) only [f_X4_search_50, b_X4_search_50, b_X4_search_125, t1, bit1, hbo, u1, eri, x1, Bool.false_eq_true, neg_nI, lit_nI, nI_add, pk_mul, pk_sub, nI_clamp, inB_nI, gd_true, bnd_def, nI_leI, nI_ltI, nI_eq, nI_mI, mI_nI, nle_T, nle_F, nlt_T, nlt_F, neq_T, neq_F, ↓reduceIte, Nat.add_zero, Nat.zero_add, Nat.mul_zero, Nat.reduceAdd, Nat.reduceMul, Nat.reduceSub, ob1_e, ob2_e, ob3_e, ob4_e, ob6_e]
                · rw [← e2]
                  rw [show ((1 : Int32) <<< (nI o &&& nI 31)) = (nI 1 <<< (nI o &&& nI 31)) from rfl] at x2
                  simp (disch := omega) only [f_X12_tryPairs_90, b_X12_tryPairs_90, b_X12_tryPairs_157, areTwo_c, g1, g2, e0, t1, isFree_c, mfo, fo, f_X12_has, b_X12_has_0, bit1, hb, er2, x2, ob5_e, Bool.false_eq_true, neg_nI, lit_nI, nI_add, pk_mul, pk_sub, nI_clamp, inB_nI, gd_true, bnd_def, nI_leI, nI_ltI, nI_eq, nI_mI, mI_nI, nle_T, nle_F, nlt_T, nlt_F, neq_T, neq_F, ↓reduceIte, Nat.add_zero, Nat.zero_add, Nat.mul_zero, Nat.reduceAdd, Nat.reduceMul, Nat.reduceSub, ob1_e, ob2_e, ob3_e, ob4_e, ob6_e]
            · have hpm : pMet c o = true := by unfold pMet; rw [decide_eq_true fo]
              rw [hpm, Bool.true_or] at hbo
              obtain ⟨bs', b', lt', st', e1, e2, e3, e4⟩ := ihi (o + 1) n n' bs br fd mr ms0 mf lt st (by omega) (by omega) (by omega) (hSn hS)
              refine ⟨bs', b', lt', st', ?_, ?_, e3, e4⟩
              · rw [← e1]
                simp (disch := omega) only [f_X4_search_50, b_X4_search_50, b_X4_search_125, t1, bit1, hbo, neg_nI, lit_nI, nI_add, pk_mul, pk_sub, nI_clamp, inB_nI, gd_true, bnd_def, nI_leI, nI_ltI, nI_eq, nI_mI, mI_nI, nle_T, nle_F, nlt_T, nlt_F, neq_T, neq_F, ↓reduceIte, Nat.add_zero, Nat.zero_add, Nat.mul_zero, Nat.reduceAdd, Nat.reduceMul, Nat.reduceSub, ob1_e, ob2_e, ob3_e, ob4_e, ob6_e]
              · rw [← e2]
                simp (disch := omega) only [f_X12_tryPairs_90, b_X12_tryPairs_90, b_X12_tryPairs_157, areTwo_c, g1, g2, e0, t1, isFree_c, mfo, fo, neg_nI, lit_nI, nI_add, pk_mul, pk_sub, nI_clamp, inB_nI, gd_true, bnd_def, nI_leI, nI_ltI, nI_eq, nI_mI, mI_nI, nle_T, nle_F, nlt_T, nlt_F, neq_T, neq_F, ↓reduceIte, Nat.add_zero, Nat.zero_add, Nat.mul_zero, Nat.reduceAdd, Nat.reduceMul, Nat.reduceSub, ob1_e, ob2_e, ob3_e, ob4_e, ob6_e]
      have hS2 : SR G th (cnt (thE th c) (nI 0) G) (lo + 0 * w') bs br fd mr ms0 mf := by
        rw [Nat.zero_mul, Nat.add_zero]
        exact hS
      obtain ⟨bs', b', lt', st', e1, e2, e3, e4⟩ := loop G 0 fu fu bs br fd mr ms0 mf lt st (by omega) (by have := fu_le; omega) (by have := fu_le; omega) hS2
      refine ⟨bs', b', lt', st', ?_, ?_, e3, e4⟩
      · show g_X4_search (rc_X4_search D) (nI G) th _ un ri bs br fd _ taken (nI r) sum = _
        rw [← e1]
        simp (disch := omega) only [g_X4_search, b_X4_search_0, neg_nI, lit_nI, nI_add, pk_mul, pk_sub, nI_clamp, inB_nI, gd_true, bnd_def, nI_leI, nI_ltI, nI_eq, nI_mI, mI_nI, nle_T, nle_F, nlt_T, nlt_F, neq_T, neq_F, ↓reduceIte, Nat.add_zero, Nat.zero_add, Nat.mul_zero, Nat.reduceAdd, Nat.reduceMul, Nat.reduceSub, ob1_e, ob2_e, ob3_e, ob4_e, ob6_e]
      · show g_X12_tryPairs (rc_X12_tryPairs D') (nI G) mh mc mv mk mt ms mu mg m mr ms0 mf lt st (nI g) gone (nI r) sum = _
        rw [← e2]
        have e0 := hE.1
        have f0 := hE.2
        simp (disch := omega) only [g_X12_tryPairs, b_X12_tryPairs_0, of_c, g1, e0, isFree_c, mfr, f0, neg_nI, lit_nI, nI_add, pk_mul, pk_sub, nI_clamp, inB_nI, gd_true, bnd_def, nI_leI, nI_ltI, nI_eq, nI_mI, mI_nI, nle_T, nle_F, nlt_T, nlt_F, neq_T, neq_F, ↓reduceIte, Nat.add_zero, Nat.zero_add, Nat.mul_zero, Nat.reduceAdd, Nat.reduceMul, Nat.reduceSub, ob1_e, ob2_e, ob3_e, ob4_e, ob6_e]
    · have ee := thE_n hE
      have hc1 := cnt_n ee
      obtain ⟨bs', b', lt', st', e1, e2, e3, e4⟩ := ih (g + 1) D D' L lo w r taken gone sum bs br fd mr ms0 mf lt st (by omega) (by omega) (by omega) (by omega) hw hlo h6 (by rw [hc1]; exact hV) hB hS
      rw [hc1] at e1
      refine ⟨bs', b', lt', st', e1, ?_, e3, e4⟩
      have e2' : rc_X12_tryPairs D' (nI G) mh mc mv mk mt ms mu mg m mr ms0 mf lt st (nI (g + 1)) gone (nI r) sum = some (nI b', bs', nI 1, lt', st') := e2
      show g_X12_tryPairs (rc_X12_tryPairs D') (nI G) mh mc mv mk mt ms mu mg m mr ms0 mf lt st (nI g) gone (nI r) sum = _
      by_cases e0 : th g = nI 0
      · have f0 : ¬ c (54 + g) = mI 1 := fun z => hE ⟨e0, z⟩
        simp (disch := omega) only [g_X12_tryPairs, b_X12_tryPairs_0, b_X12_tryPairs_75, of_c, g1, e0, isFree_c, mfr, f0, e2', ob5_e, neg_nI, lit_nI, nI_add, pk_mul, pk_sub, nI_clamp, inB_nI, gd_true, bnd_def, nI_leI, nI_ltI, nI_eq, nI_mI, mI_nI, nle_T, nle_F, nlt_T, nlt_F, neq_T, neq_F, ↓reduceIte, Nat.add_zero, Nat.zero_add, Nat.mul_zero, Nat.reduceAdd, Nat.reduceMul, Nat.reduceSub, ob1_e, ob2_e, ob3_e, ob4_e, ob6_e]
      · simp (disch := omega) only [g_X12_tryPairs, b_X12_tryPairs_0, b_X12_tryPairs_75, of_c, g1, e0, e2', ob5_e, neg_nI, lit_nI, nI_add, pk_mul, pk_sub, nI_clamp, inB_nI, gd_true, bnd_def, nI_leI, nI_ltI, nI_eq, nI_mI, mI_nI, nle_T, nle_F, nlt_T, nlt_F, neq_T, neq_F, ↓reduceIte, Nat.add_zero, Nat.zero_add, Nat.mul_zero, Nat.reduceAdd, Nat.reduceMul, Nat.reduceSub, ob1_e, ob2_e, ob3_e, ob4_e, ob6_e]
end MA
