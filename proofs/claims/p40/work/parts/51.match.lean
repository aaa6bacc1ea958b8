section
/-! the match of a day -/
def thE (th c : Nat → Int32) (t : Nat) : Int32 := if th t = nI 0 ∧ c (54 + t) = mI 1 then nI 0 else nI 1
theorem thE_y {th c : Nat → Int32} {t : Nat} (h1 : th t = nI 0) (h2 : c (54 + t) = mI 1) : thE th c t = nI 0 := by unfold thE; rw [if_pos ⟨h1, h2⟩]
theorem thE_n {th c : Nat → Int32} {t : Nat} (h : ¬ (th t = nI 0 ∧ c (54 + t) = mI 1)) : ¬ thE th c t = nI 0 := by unfold thE; rw [if_neg h]; decide
theorem thE_i {th c : Nat → Int32} {t : Nat} (h : thE th c t = nI 0) : th t = nI 0 ∧ c (54 + t) = mI 1 := by
  by_cases e : th t = nI 0 ∧ c (54 + t) = mI 1
  · exact e
  · exact absurd h (thE_n e)
def UNM (R : R6) (G : Nat) (th ta c un ri : Nat → Int32) (a : Nat) : Prop := ∀ t, t < a → thE th c t = nI 0 → un (cnt (thE th c) (nI 0) t) = nI t ∧ ∀ o, o < G → ¬ th t = th o → ri (t * 6 + o) = rv R ta c t o (c (pl t o)) (c 68)
def DV (G : Nat) (th : Nat → Int32) : Nat → Nat → Prop
  | 0, _ => True
  | p + 1, r => (r % 10 = 9 ∨ (r % 10 < G ∧ th (r % 10) = nI 1)) ∧ DV G th p (r / 10)
section MA
variable {R : R6} {lh : Int32} {ll l0 l1 l2 l3 : Nat → Int32} {mh : Int32} {mc mv mk mt ms mu : Nat → Int32}
variable {G M : Nat} {th ta mg c m : Nat → Int32}
theorem solve_in (hX : RiseX R lh ll l0 l1 l2 l3) (hG : G ≤ 6) {a : Nat} (ha : a < G) {sz bs br fd : Int32} {un : Nat → Int32} {k7 : (Nat → Int32) → (Nat → Int32) → Int32 → Int32 → Int32 → Int32 → (Nat → Int32) → (Nat → Int32) → Int32 → Option ((Nat → Int32) × (Nat → Int32) × Int32 × Int32 × Int32 × Int32 × (Nat → Int32) × (Nat → Int32))} : ∀ (j b n : Nat) (lt st ri : Nat → Int32), b + j = G → j < n → ∃ lt' st' ri', f_X4_solve_60 (nI G) th ta lh ll l0 l1 l2 l3 c k7 n lt st sz bs br fd un ri (nI a) (nI b) = k7 lt' st' sz bs br fd un ri' (nI (a + 1)) ∧ (∀ o, b ≤ o → o < G → ¬ th a = th o → ri' (a * 6 + o) = rv R ta c a o (c (pl a o)) (c 68)) ∧ (∀ i, i < a * 6 + b ∨ a * 6 + G ≤ i → ri' i = ri i) := by
  intro j
  induction j with
  | zero =>
    intro b n lt st ri hb h1
    obtain ⟨n, rfl⟩ : ∃ q, n = q + 1 := ⟨n - 1, by omega⟩
    refine ⟨lt, st, ri, ?_, fun o h2 h3 => by omega, fun _ _ => rfl⟩
    simp (disch := omega) only [f_X4_solve_60, b_X4_solve_60, b_X4_solve_110, neg_nI, lit_nI, nI_add, pk_mul, pk_sub, nI_clamp, inB_nI, gd_true, bnd_def, nI_leI, nI_ltI, nI_eq, nI_mI, mI_nI, nle_T, nle_F, nlt_T, nlt_F, neq_T, neq_F, ↓reduceIte, Nat.add_zero, Nat.zero_add, Nat.mul_zero, Nat.reduceAdd, Nat.reduceMul, Nat.reduceSub, ob1_e, ob2_e, ob3_e, ob4_e, ob6_e]
  | succ j ih =>
    intro b n lt st ri hb h1
    obtain ⟨n, rfl⟩ : ∃ q, n = q + 1 := ⟨n - 1, by omega⟩
    by_cases ht : th a = th b
    · obtain ⟨lt', st', ri', e1, e2, e3⟩ := ih (b + 1) n lt st (upd ri (a * 6 + b) (nI 0)) (by omega) (by omega)
      refine ⟨lt', st', ri', ?_, fun o h2 h3 h4 => ?_, fun i hi => ?_⟩
      · rw [← e1]
        simp (disch := omega) only [f_X4_solve_60, b_X4_solve_60, b_X4_solve_103, unlike_c, ht, neg_nI, lit_nI, nI_add, pk_mul, pk_sub, nI_clamp, inB_nI, gd_true, bnd_def, nI_leI, nI_ltI, nI_eq, nI_mI, mI_nI, nle_T, nle_F, nlt_T, nlt_F, neq_T, neq_F, ↓reduceIte, Nat.add_zero, Nat.zero_add, Nat.mul_zero, Nat.reduceAdd, Nat.reduceMul, Nat.reduceSub, ob1_e, ob2_e, ob3_e, ob4_e, ob6_e]
      · by_cases e : o = b
        · rw [e] at h4
          exact absurd ht h4
        · exact e2 o (by omega) h3 h4
      · rw [e3 i (by omega), upd_n (by omega)]
    · obtain ⟨lt1, st1, er⟩ := riseOf_c hX (ta := ta) (c := c) (lt := lt) (st := st) (g := a) (o := b) ⟨by omega, by omega⟩
      obtain ⟨lt', st', ri', e1, e2, e3⟩ := ih (b + 1) n lt1 st1 (upd ri (a * 6 + b) (rv R ta c a b (c (pl a b)) (c 68))) (by omega) (by omega)
      refine ⟨lt', st', ri', ?_, fun o h2 h3 h4 => ?_, fun i hi => ?_⟩
      · rw [← e1]
        simp (disch := omega) only [f_X4_solve_60, b_X4_solve_60, b_X4_solve_103, unlike_c, ht, er, neg_nI, lit_nI, nI_add, pk_mul, pk_sub, nI_clamp, inB_nI, gd_true, bnd_def, nI_leI, nI_ltI, nI_eq, nI_mI, mI_nI, nle_T, nle_F, nlt_T, nlt_F, neq_T, neq_F, ↓reduceIte, Nat.add_zero, Nat.zero_add, Nat.mul_zero, Nat.reduceAdd, Nat.reduceMul, Nat.reduceSub, ob1_e, ob2_e, ob3_e, ob4_e, ob6_e]
      · by_cases e : o = b
        · rw [e, e3 _ (by omega), upd_y rfl]
        · exact e2 o (by omega) h3 h4
      · rw [e3 i (by omega), upd_n (by omega)]
theorem solve_out (hX : RiseX R lh ll l0 l1 l2 l3) (hG : G ≤ 6) {bs br fd : Int32} : ∀ (j a n : Nat) (lt st un ri : Nat → Int32), a + j = G → j < n → UNM R G th ta c un ri a → ∃ lt' st' un' ri', f_X4_solve_7 (nI G) th ta lh ll l0 l1 l2 l3 c n lt st (nI (cnt (thE th c) (nI 0) a)) bs br fd un ri (nI a) = ob3 (f_X4_search 60 (nI G) th (nI (cnt (thE th c) (nI 0) G)) un' ri' bs br (nI 0) (nI 0) (bbF (pMet c) G 0 (nI 0)) (nI 0) (nI 0)) (fun x y z => some (lt', st', nI (cnt (thE th c) (nI 0) G), x, y, z, un', ri')) ∧ UNM R G th ta c un' ri' G := by
  intro j
  induction j with
  | zero =>
    intro a n lt st un ri ha h1 hU
    obtain ⟨n, rfl⟩ : ∃ q, n = q + 1 := ⟨n - 1, by omega⟩
    have ea : a = G := by omega
    subst ea
    refine ⟨lt, st, un, ri, ?_, hU⟩
    simp (disch := omega) only [f_X4_solve_7, b_X4_solve_7, metBits_c hG, neg_nI, lit_nI, nI_add, pk_mul, pk_sub, nI_clamp, inB_nI, gd_true, bnd_def, nI_leI, nI_ltI, nI_eq, nI_mI, mI_nI, nle_T, nle_F, nlt_T, nlt_F, neq_T, neq_F, ↓reduceIte, Nat.add_zero, Nat.zero_add, Nat.mul_zero, Nat.reduceAdd, Nat.reduceMul, Nat.reduceSub, ob1_e, ob2_e, ob3_e, ob4_e, ob6_e]
  | succ j ih =>
    intro a n lt st un ri ha h1 hU
    obtain ⟨n, rfl⟩ : ∃ q, n = q + 1 := ⟨n - 1, by omega⟩
    have hle := cnt_le (thE th c) (nI 0) a
    by_cases e0 : th a = nI 0
    · by_cases f0 : c (54 + a) = mI 1
      · have ee := thE_y e0 f0
        obtain ⟨lt1, st1, ri1, p1, p2, p3⟩ := solve_in (th := th) (ta := ta) (c := c) hX hG (show a < G by omega) (sz := nI (cnt (thE th c) (nI 0) a + 1)) (bs := bs) (br := br) (fd := fd) (un := upd un (cnt (thE th c) (nI 0) a) (nI a)) (k7 := f_X4_solve_7 (nI G) th ta lh ll l0 l1 l2 l3 c n) G 0 fu lt st ri (by omega) (by have := fu_le; omega)
        have hU2 : UNM R G th ta c (upd un (cnt (thE th c) (nI 0) a) (nI a)) ri1 (a + 1) := by
          intro t ht et
          by_cases e : t = a
          · subst e
            exact ⟨upd_y rfl, fun o ho hn => p2 o (by omega) ho hn⟩
          · have hlt := cnt_lt et (show t < a by omega)
            obtain ⟨q1, q2⟩ := hU t (by omega) et
            refine ⟨by rw [upd_n (by omega)]; exact q1, fun o ho hn => ?_⟩
            rw [p3 _ (by omega)]
            exact q2 o ho hn
        obtain ⟨lt', st', un', ri', e1, e2⟩ := ih (a + 1) n lt1 st1 _ ri1 (by omega) (by omega) hU2
        rw [cnt_y ee] at e1
        refine ⟨lt', st', un', ri', ?_, e2⟩
        rw [← e1, ← p1]
        simp (disch := omega) only [f_X4_solve_7, b_X4_solve_7, e0, hasMet_c, f0, neg_nI, lit_nI, nI_add, pk_mul, pk_sub, nI_clamp, inB_nI, gd_true, bnd_def, nI_leI, nI_ltI, nI_eq, nI_mI, mI_nI, nle_T, nle_F, nlt_T, nlt_F, neq_T, neq_F, ↓reduceIte, Nat.add_zero, Nat.zero_add, Nat.mul_zero, Nat.reduceAdd, Nat.reduceMul, Nat.reduceSub, ob1_e, ob2_e, ob3_e, ob4_e, ob6_e]
      · have ee : ¬ thE th c a = nI 0 := thE_n (fun z => f0 z.2)
        have hU2 : UNM R G th ta c un ri (a + 1) := by
          intro t ht et
          by_cases e : t = a
          · rw [e] at et
            exact absurd et ee
          · exact hU t (by omega) et
        obtain ⟨lt', st', un', ri', e1, e2⟩ := ih (a + 1) n lt st un ri (by omega) (by omega) hU2
        rw [cnt_n ee] at e1
        refine ⟨lt', st', un', ri', ?_, e2⟩
        rw [← e1]
        simp (disch := omega) only [f_X4_solve_7, b_X4_solve_7, b_X4_solve_110, e0, hasMet_c, f0, neg_nI, lit_nI, nI_add, pk_mul, pk_sub, nI_clamp, inB_nI, gd_true, bnd_def, nI_leI, nI_ltI, nI_eq, nI_mI, mI_nI, nle_T, nle_F, nlt_T, nlt_F, neq_T, neq_F, ↓reduceIte, Nat.add_zero, Nat.zero_add, Nat.mul_zero, Nat.reduceAdd, Nat.reduceMul, Nat.reduceSub, ob1_e, ob2_e, ob3_e, ob4_e, ob6_e]
    · have ee : ¬ thE th c a = nI 0 := thE_n (fun z => e0 z.1)
      have hU2 : UNM R G th ta c un ri (a + 1) := by
        intro t ht et
        by_cases e : t = a
        · rw [e] at et
          exact absurd et ee
        · exact hU t (by omega) et
      obtain ⟨lt', st', un', ri', e1, e2⟩ := ih (a + 1) n lt st un ri (by omega) (by omega) hU2
      rw [cnt_n ee] at e1
      refine ⟨lt', st', un', ri', ?_, e2⟩
      rw [← e1]
      simp (disch := omega) only [f_X4_solve_7, b_X4_solve_7, b_X4_solve_110, e0, neg_nI, lit_nI, nI_add, pk_mul, pk_sub, nI_clamp, inB_nI, gd_true, bnd_def, nI_leI, nI_ltI, nI_eq, nI_mI, mI_nI, nle_T, nle_F, nlt_T, nlt_F, neq_T, neq_F, ↓reduceIte, Nat.add_zero, Nat.zero_add, Nat.mul_zero, Nat.reduceAdd, Nat.reduceMul, Nat.reduceSub, ob1_e, ob2_e, ob3_e, ob4_e, ob6_e]
/-- the best row so far, by both: below lo -/
def SR (G : Nat) (th : Nat → Int32) (S lo : Nat) (bs br fd mr ms mf : Int32) : Prop := (fd = nI 0 ∧ mf = nI 0) ∨ (fd = nI 1 ∧ mf = nI 1 ∧ ms = bs ∧ ∃ b, br = nI b ∧ mr = nI b ∧ b < lo ∧ DV G th S b)
theorem srch (hY : RiseY R mh mc mv mk mt ms mu) (hG : G ≤ 6) (hh : ∀ g, g < G → mg (4 * g) = th g) (ha : ∀ g, g < G → mg (4 * g + 3) = ta g) (h01 : ∀ g, g < G → th g = nI 0 ∨ th g = nI 1) (hN : RN G M c m) {un ri : Nat → Int32} (hU : UNM R G th ta c un ri G) : ∀ (j g D D' L lo w r : Nat) (taken gone sum bs br fd mr ms0 mf : Int32) (lt st : Nat → Int32), g + j = G → j + 1 ≤ D → j + 1 ≤ D' → cnt (thE th c) (nI 0) g + L = cnt (thE th c) (nI 0) G → w = 10 ^ L → lo = r * w → lo + w ≤ 1000000 → DV G th (cnt (thE th c) (nI 0) g) r → (∀ o, o < G → bt taken o = (pMet c o || bt gone o)) → SR G th (cnt (thE th c) (nI 0) G) lo bs br fd mr ms0 mf → ∃ bs' b' lt' st', f_X4_search D (nI G) th (nI (cnt (thE th c) (nI 0) G)) un ri bs br fd (nI (cnt (thE th c) (nI 0) g)) taken (nI r) sum = some (bs', nI b', nI 1) ∧ f_X12_tryPairs D' (nI G) mh mc mv mk mt ms mu mg m mr ms0 mf lt st (nI g) gone (nI r) sum = some (nI b', bs', nI 1, lt', st') ∧ b' < lo + w ∧ DV G th (cnt (thE th c) (nI 0) G) b' := by
  have hSle := cnt_le (thE th c) (nI 0) G
  intro j
  induction j with
  | zero =>
    intro g D D' L lo w r taken gone sum bs br fd mr ms0 mf lt st hg hD hD' hL hw hlo h6 hV hB hS
    obtain ⟨D, rfl⟩ : ∃ q, D = q + 1 := ⟨D - 1, by omega⟩
    obtain ⟨D', rfl⟩ : ∃ q, D' = q + 1 := ⟨D' - 1, by omega⟩
    have eg : g = G := by omega
    subst eg
    have eL : L = 0 := by omega
    subst eL
    have ew : w = 1 := hw
    subst ew
    rw [Nat.mul_one] at hlo
    subst hlo
    rcases hS with ⟨rfl, rfl⟩ | ⟨rfl, rfl, rfl, b, rfl, rfl, hb, hbV⟩
    · refine ⟨sum, lo, lt, st, ?_, ?_, by omega, hV⟩
      · show g_X4_search (rc_X4_search D) (nI g) th _ un ri bs br (nI 0) _ taken (nI lo) sum = _
        simp (disch := omega) only [g_X4_search, b_X4_search_0, b_X4_search_14, b_X4_search_30, neg_nI, lit_nI, nI_add, pk_mul, pk_sub, nI_clamp, inB_nI, gd_true, bnd_def, nI_leI, nI_ltI, nI_eq, nI_mI, mI_nI, nle_T, nle_F, nlt_T, nlt_F, neq_T, neq_F, ↓reduceIte, Nat.add_zero, Nat.zero_add, Nat.mul_zero, Nat.reduceAdd, Nat.reduceMul, Nat.reduceSub, ob1_e, ob2_e, ob3_e, ob4_e, ob6_e]
      · show g_X12_tryPairs (rc_X12_tryPairs D') (nI g) mh mc mv mk mt ms mu mg m mr ms0 (nI 0) lt st (nI g) gone (nI lo) sum = _
        simp (disch := omega) only [g_X12_tryPairs, b_X12_tryPairs_0, b_X12_tryPairs_41, neg_nI, lit_nI, nI_add, pk_mul, pk_sub, nI_clamp, inB_nI, gd_true, bnd_def, nI_leI, nI_ltI, nI_eq, nI_mI, mI_nI, nle_T, nle_F, nlt_T, nlt_F, neq_T, neq_F, ↓reduceIte, Nat.add_zero, Nat.zero_add, Nat.mul_zero, Nat.reduceAdd, Nat.reduceMul, Nat.reduceSub, ob1_e, ob2_e, ob3_e, ob4_e, ob6_e]
    · by_cases hs : sum ≤ ms0
      · have hs2 : ¬ ms0 < sum := by rw [le32] at hs; rw [lt32]; omega
        refine ⟨ms0, b, lt, st, ?_, ?_, by omega, hbV⟩
        · show g_X4_search (rc_X4_search D) (nI g) th _ un ri ms0 (nI b) (nI 1) _ taken (nI lo) sum = _
          simp (disch := omega) only [g_X4_search, b_X4_search_0, b_X4_search_14, hs, neg_nI, lit_nI, nI_add, pk_mul, pk_sub, nI_clamp, inB_nI, gd_true, bnd_def, nI_leI, nI_ltI, nI_eq, nI_mI, mI_nI, nle_T, nle_F, nlt_T, nlt_F, neq_T, neq_F, ↓reduceIte, Nat.add_zero, Nat.zero_add, Nat.mul_zero, Nat.reduceAdd, Nat.reduceMul, Nat.reduceSub, ob1_e, ob2_e, ob3_e, ob4_e, ob6_e]
        · show g_X12_tryPairs (rc_X12_tryPairs D') (nI g) mh mc mv mk mt ms mu mg m (nI b) ms0 (nI 1) lt st (nI g) gone (nI lo) sum = _
          by_cases he : sum = ms0
          · subst he
            have hs3 : ¬ sum < sum := by rw [lt32]; omega
            simp (disch := omega) only [g_X12_tryPairs, b_X12_tryPairs_0, hs3, neg_nI, lit_nI, nI_add, pk_mul, pk_sub, nI_clamp, inB_nI, gd_true, bnd_def, nI_leI, nI_ltI, nI_eq, nI_mI, mI_nI, nle_T, nle_F, nlt_T, nlt_F, neq_T, neq_F, ↓reduceIte, Nat.add_zero, Nat.zero_add, Nat.mul_zero, Nat.reduceAdd, Nat.reduceMul, Nat.reduceSub, ob1_e, ob2_e, ob3_e, ob4_e, ob6_e]
          · simp (disch := omega) only [g_X12_tryPairs, b_X12_tryPairs_0, hs2, he, neg_nI, lit_nI, nI_add, pk_mul, pk_sub, nI_clamp, inB_nI, gd_true, bnd_def, nI_leI, nI_ltI, nI_eq, nI_mI, mI_nI, nle_T, nle_F, nlt_T, nlt_F, neq_T, neq_F, ↓reduceIte, Nat.add_zero, Nat.zero_add, Nat.mul_zero, Nat.reduceAdd, Nat.reduceMul, Nat.reduceSub, ob1_e, ob2_e, ob3_e, ob4_e, ob6_e]
      · have hs2 : ms0 < sum := by rw [le32] at hs; rw [lt32]; omega
        refine ⟨sum, lo, lt, st, ?_, ?_, by omega, hV⟩
        · show g_X4_search (rc_X4_search D) (nI g) th _ un ri ms0 (nI b) (nI 1) _ taken (nI lo) sum = _
          simp (disch := omega) only [g_X4_search, b_X4_search_0, b_X4_search_14, b_X4_search_30, hs, neg_nI, lit_nI, nI_add, pk_mul, pk_sub, nI_clamp, inB_nI, gd_true, bnd_def, nI_leI, nI_ltI, nI_eq, nI_mI, mI_nI, nle_T, nle_F, nlt_T, nlt_F, neq_T, neq_F, ↓reduceIte, Nat.add_zero, Nat.zero_add, Nat.mul_zero, Nat.reduceAdd, Nat.reduceMul, Nat.reduceSub, ob1_e, ob2_e, ob3_e, ob4_e, ob6_e]
        · show g_X12_tryPairs (rc_X12_tryPairs D') (nI g) mh mc mv mk mt ms mu mg m (nI b) ms0 (nI 1) lt st (nI g) gone (nI lo) sum = _
          simp (disch := omega) only [g_X12_tryPairs, b_X12_tryPairs_0, b_X12_tryPairs_41, hs2, neg_nI, lit_nI, nI_add, pk_mul, pk_sub, nI_clamp, inB_nI, gd_true, bnd_def, nI_leI, nI_ltI, nI_eq, nI_mI, mI_nI, nle_T, nle_F, nlt_T, nlt_F, neq_T, neq_F, ↓reduceIte, Nat.add_zero, Nat.zero_add, Nat.mul_zero, Nat.reduceAdd, Nat.reduceMul, Nat.reduceSub, ob1_e, ob2_e, ob3_e, ob4_e, ob6_e]
  | succ j ih =>
    intro g D D' L lo w r taken gone sum bs br fd mr ms0 mf lt st hg hD hD' hL hw hlo h6 hV hB hS
    obtain ⟨D', rfl⟩ : ∃ q, D' = q + 1 := ⟨D' - 1, by omega⟩
    have hgl : g < G := by omega
    have g1 := hh g hgl
    have mfr : m (54 + g) = c (54 + g) := hN _ (by omega)
    have hcg := cnt_le (thE th c) (nI 0) g
    by_cases hE : th g = nI 0 ∧ c (54 + g) = mI 1
    · obtain ⟨D, rfl⟩ : ∃ q, D = q + 1 := ⟨D - 1, by omega⟩
      have ee := thE_y hE.1 hE.2
      have hlt := cnt_lt ee hgl
      obtain ⟨L, rfl⟩ : ∃ q, L = q + 1 := ⟨L - 1, by omega⟩
      obtain ⟨u1, u2⟩ := hU g hgl ee
      have hc1 := cnt_y ee
      obtain ⟨w', hw'⟩ : ∃ q, q = 10 ^ L := ⟨_, rfl⟩
      have hww : w = 10 * w' := by rw [hw, hw', Nat.pow_succ, Nat.mul_comm]
      have hwp : 0 < w' := by rw [hw']; exact Nat.pos_of_ne_zero (by simp)
      have hlo2 : ∀ d, (10 * r + d) * w' = lo + d * w' := by
        intro d
        rw [Nat.add_mul, hlo, hww, Nat.mul_comm 10 r, Nat.mul_assoc]
      -- a child of this node
      have child : ∀ (d : Nat) (taken gone sum bs br fd mr ms0 mf : Int32) (lt st : Nat → Int32), d ≤ 9 → (d = 9 ∨ (d < G ∧ th d = nI 1)) → (∀ o, o < G → bt taken o = (pMet c o || bt gone o)) → SR G th (cnt (thE th c) (nI 0) G) (lo + d * w') bs br fd mr ms0 mf → ∃ bs' b' lt' st', rc_X4_search D (nI G) th (nI (cnt (thE th c) (nI 0) G)) un ri bs br fd (nI (cnt (thE th c) (nI 0) g + 1)) taken (nI (10 * r + d)) sum = some (bs', nI b', nI 1) ∧ rc_X12_tryPairs D' (nI G) mh mc mv mk mt ms mu mg m mr ms0 mf lt st (nI (g + 1)) gone (nI (10 * r + d)) sum = some (nI b', bs', nI 1, lt', st') ∧ b' < lo + d * w' + w' ∧ DV G th (cnt (thE th c) (nI 0) G) b' := by
        intro d taken gone sum bs br fd mr ms0 mf lt st hd hd2 hB hS
        have hd9 : d * w' ≤ 9 * w' := Nat.mul_le_mul_right w' hd
        have hV2 : DV G th (cnt (thE th c) (nI 0) (g + 1)) (10 * r + d) := by
          rw [hc1]
          refine ⟨?_, ?_⟩
          · rw [show (10 * r + d) % 10 = d by omega]
            exact hd2
          · rw [show (10 * r + d) / 10 = r by omega]
            exact hV
        have := ih (g + 1) D D' L (lo + d * w') w' (10 * r + d) taken gone sum bs br fd mr ms0 mf lt st (by omega) (by omega) (by omega) (by omega) hw' (hlo2 d).symm (by omega) hV2 hB hS
        rw [hc1] at this
        exact this
      -- the loop over the others
      have loop : ∀ (i o n n' : Nat) (bs br fd mr ms0 mf : Int32) (lt st : Nat → Int32), o + i = G → i < n → i < n' → SR G th (cnt (thE th c) (nI 0) G) (lo + o * w') bs br fd mr ms0 mf → ∃ bs' b' lt' st', f_X4_search_50 (rc_X4_search D) (nI G) th (nI (cnt (thE th c) (nI 0) G)) un ri n bs br fd (nI (cnt (thE th c) (nI 0) g)) taken (nI r) sum (nI o) = some (bs', nI b', nI 1) ∧ f_X12_tryPairs_90 (rc_X12_tryPairs D') (nI G) mh mc mv mk mt ms mu mg m n' mr ms0 mf lt st (nI g) gone (nI r) sum (nI o) = some (nI b', bs', nI 1, lt', st') ∧ b' < lo + w ∧ DV G th (cnt (thE th c) (nI 0) G) b' := by
        intro i
        induction i with
        | zero =>
          intro o n n' bs br fd mr ms0 mf lt st ho h1 h2 hS
          obtain ⟨n, rfl⟩ : ∃ q, n = q + 1 := ⟨n - 1, by omega⟩
          obtain ⟨n', rfl⟩ : ∃ q, n' = q + 1 := ⟨n' - 1, by omega⟩
          have ho9 : o * w' ≤ 9 * w' := Nat.mul_le_mul_right w' (by omega)
          have hS2 : SR G th (cnt (thE th c) (nI 0) G) (lo + 9 * w') bs br fd mr ms0 mf := by
            rcases hS with q | ⟨q1, q2, q3, b, q4, q5, q6, q7⟩
            · exact Or.inl q
            · exact Or.inr ⟨q1, q2, q3, b, q4, q5, by omega, q7⟩
          obtain ⟨bs', b', lt', st', e1, e2, e3, e4⟩ := child 9 taken gone sum bs br fd mr ms0 mf lt st (by omega) (Or.inl rfl) hB hS2
          have er : 10 * r = r * 10 := Nat.mul_comm 10 r
          refine ⟨bs', b', lt', st', ?_, ?_, by omega, e4⟩
          · rw [er] at e1
            simp (disch := omega) only [f_X4_search_50, b_X4_search_50, e1, neg_nI, lit_nI, nI_add, pk_mul, pk_sub, nI_clamp, inB_nI, gd_true, bnd_def, nI_leI, nI_ltI, nI_eq, nI_mI, mI_nI, nle_T, nle_F, nlt_T, nlt_F, neq_T, neq_F, ↓reduceIte, Nat.add_zero, Nat.zero_add, Nat.mul_zero, Nat.reduceAdd, Nat.reduceMul, Nat.reduceSub, ob1_e, ob2_e, ob3_e, ob4_e, ob6_e]
          · simp (disch := omega) only [f_X12_tryPairs_90, b_X12_tryPairs_90, e2, ob5_e, neg_nI, lit_nI, nI_add, pk_mul, pk_sub, nI_clamp, inB_nI, gd_true, bnd_def, nI_leI, nI_ltI, nI_eq, nI_mI, mI_nI, nle_T, nle_F, nlt_T, nlt_F, neq_T, neq_F, ↓reduceIte, Nat.add_zero, Nat.zero_add, Nat.mul_zero, Nat.reduceAdd, Nat.reduceMul, Nat.reduceSub, ob1_e, ob2_e, ob3_e, ob4_e, ob6_e]
        | succ i ihi =>
          intro o n n' bs br fd mr ms0 mf lt st ho h1 h2 hS
          obtain ⟨n, rfl⟩ : ∃ q, n = q + 1 := ⟨n - 1, by omega⟩
          obtain ⟨n', rfl⟩ : ∃ q, n' = q + 1 := ⟨n' - 1, by omega⟩
          have er : 10 * r = r * 10 := Nat.mul_comm 10 r
          have g2 := hh o (by omega)
          have mfo : m (54 + o) = c (54 + o) := hN _ (by omega)
          have hs1 : (o + 1) * w' = o * w' + w' := Nat.succ_mul o w'
          have hSn : ∀ {bs br fd mr ms0 mf : Int32}, SR G th (cnt (thE th c) (nI 0) G) (lo + o * w') bs br fd mr ms0 mf → SR G th (cnt (thE th c) (nI 0) G) (lo + (o + 1) * w') bs br fd mr ms0 mf := by
            intro bs br fd mr ms0 mf hS
            rcases hS with q | ⟨q1, q2, q3, b, q4, q5, q6, q7⟩
            · exact Or.inl q
            · exact Or.inr ⟨q1, q2, q3, b, q4, q5, by omega, q7⟩
          have n01 : ¬ nI 0 = nI 1 := by decide
          have n10 : ¬ nI 1 = nI 0 := by decide
          have hbo := hB o (by omega)
          have e0 := hE.1
          rcases h01 o (by omega) with t0 | t1
          · obtain ⟨bs', b', lt', st', e1, e2, e3, e4⟩ := ihi (o + 1) n n' bs br fd mr ms0 mf lt st (by omega) (by omega) (by omega) (hSn hS)
            refine ⟨bs', b', lt', st', ?_, ?_, e3, e4⟩
            · rw [← e1]
              simp (disch := omega) only [f_X4_search_50, b_X4_search_50, b_X4_search_125, t0, neg_nI, lit_nI, nI_add, pk_mul, pk_sub, nI_clamp, inB_nI, gd_true, bnd_def, nI_leI, nI_ltI, nI_eq, nI_mI, mI_nI, nle_T, nle_F, nlt_T, nlt_F, neq_T, neq_F, ↓reduceIte, Nat.add_zero, Nat.zero_add, Nat.mul_zero, Nat.reduceAdd, Nat.reduceMul, Nat.reduceSub, ob1_e, ob2_e, ob3_e, ob4_e, ob6_e]
            · rw [← e2]
              simp (disch := omega) only [f_X12_tryPairs_90, b_X12_tryPairs_90, b_X12_tryPairs_157, areTwo_c, g1, g2, e0, t0, neg_nI, lit_nI, nI_add, pk_mul, pk_sub, nI_clamp, inB_nI, gd_true, bnd_def, nI_leI, nI_ltI, nI_eq, nI_mI, mI_nI, nle_T, nle_F, nlt_T, nlt_F, neq_T, neq_F, ↓reduceIte, Nat.add_zero, Nat.zero_add, Nat.mul_zero, Nat.reduceAdd, Nat.reduceMul, Nat.reduceSub, ob1_e, ob2_e, ob3_e, ob4_e, ob6_e]
          · by_cases fo : c (54 + o) = mI 1
            · have hpm : pMet c o = false := by unfold pMet; rw [decide_eq_false (fun q => q fo)]
              rw [hpm, Bool.false_or] at hbo
              cases hb : bt gone o with
              | true =>
                rw [hb] at hbo
                obtain ⟨bs', b', lt', st', e1, e2, e3, e4⟩ := ihi (o + 1) n n' bs br fd mr ms0 mf lt st (by omega) (by omega) (by omega) (hSn hS)
                refine ⟨bs', b', lt', st', ?_, ?_, e3, e4⟩
                · rw [← e1]
                  simp (disch := omega) only [f_X4_search_50, b_X4_search_50, b_X4_search_125, t1, bit1, hbo, neg_nI, lit_nI, nI_add, pk_mul, pk_sub, nI_clamp, inB_nI, gd_true, bnd_def, nI_leI, nI_ltI, nI_eq, nI_mI, mI_nI, nle_T, nle_F, nlt_T, nlt_F, neq_T, neq_F, ↓reduceIte, Nat.add_zero, Nat.zero_add, Nat.mul_zero, Nat.reduceAdd, Nat.reduceMul, Nat.reduceSub, ob1_e, ob2_e, ob3_e, ob4_e, ob6_e]
                · rw [← e2]
                  simp (disch := omega) only [f_X12_tryPairs_90, b_X12_tryPairs_90, b_X12_tryPairs_157, areTwo_c, g1, g2, e0, t1, isFree_c, mfo, fo, f_X12_has, b_X12_has_0, bit1, hb, neg_nI, lit_nI, nI_add, pk_mul, pk_sub, nI_clamp, inB_nI, gd_true, bnd_def, nI_leI, nI_ltI, nI_eq, nI_mI, mI_nI, nle_T, nle_F, nlt_T, nlt_F, neq_T, neq_F, ↓reduceIte, Nat.add_zero, Nat.zero_add, Nat.mul_zero, Nat.reduceAdd, Nat.reduceMul, Nat.reduceSub, ob1_e, ob2_e, ob3_e, ob4_e, ob6_e]
              | false =>
                rw [hb] at hbo
                obtain ⟨lt1, st1, er2⟩ := riseOfY_c hY (mg := mg) (m := m) (lt := lt) (st := st) (g := g) (o := o) ⟨by omega, by omega⟩
                have hp := pl_lt (a := g) (b := o) ⟨by omega, by omega⟩
                rw [rv_cong hN ha ⟨hgl, by omega, hG⟩, hN (pl g o) (by omega), hN 68 (by omega)] at er2
                have eri : ri (g * 6 + o) = rv R ta c g o (c (pl g o)) (c 68) := u2 o (by omega) (by rw [e0, t1]; exact n01)
                have hB2 : ∀ q, q < G → bt (taken ||| ((1 : Int32) <<< (nI o &&& nI 31))) q = (pMet c q || bt (gone ||| ((1 : Int32) <<< (nI o &&& nI 31))) q) := by
                  intro q hq
                  rw [b_or, b_or, hB q hq, Bool.or_assoc]
                obtain ⟨bs1, b1, lt2, st2, x1, x2, x3, x4⟩ := child o (taken ||| ((1 : Int32) <<< (nI o &&& nI 31))) (gone ||| ((1 : Int32) <<< (nI o &&& nI 31))) (sum + rv R ta c g o (c (pl g o)) (c 68)) bs br fd mr ms0 mf lt1 st1 (by omega) (Or.inr ⟨by omega, t1⟩) hB2 hS
                obtain ⟨bs', b', lt', st', e1, e2, e3, e4⟩ := ihi (o + 1) n n' bs1 (nI b1) (nI 1) (nI b1) bs1 (nI 1) lt2 st2 (by omega) (by omega) (by omega) (Or.inr ⟨rfl, rfl, rfl, b1, rfl, rfl, by omega, x4⟩)
                have l1 : nI 1 = (1 : Int32) := rfl
                have l31 : nI 31 = (31 : Int32) := rfl
                refine ⟨bs', b', lt', st', ?_, ?_, e3, e4⟩
                · rw [← e1]
                  rw [er, show ((1 : Int32) <<< (nI o &&& nI 31)) = (nI 1 <<< (nI o &&& nI 31)) from rfl] at x1
                  simp (disch := omega) only [f_X4_search_50, b_X4_search_50, b_X4_search_125, t1, bit1, hbo, u1, eri, x1, Bool.false_eq_true, neg_nI, lit_nI, nI_add, pk_mul, pk_sub, nI_clamp, inB_nI, gd_true, bnd_def, nI_leI, nI_ltI, nI_eq, nI_mI, mI_nI, nle_T, nle_F, nlt_T, nlt_F, neq_T, neq_F, ↓reduceIte, Nat.add_zero, Nat.zero_add, Nat.mul_zero, Nat.reduceAdd, Nat.reduceMul, Nat.reduceSub, ob1_e, ob2_e, ob3_e, ob4_e, ob6_e]
                · rw [← e2]
                  rw [show ((1 : Int32) <<< (nI o &&& nI 31)) = (nI 1 <<< (nI o &&& nI 31)) from rfl] at x2
                  simp (disch := omega) only [f_X12_tryPairs_90, b_X12_tryPairs_90, b_X12_tryPairs_157, areTwo_c, g1, g2, e0, t1, isFree_c, mfo, fo, f_X12_has, b_X12_has_0, bit1, hb, er2, x2, ob5_e, Bool.false_eq_true, neg_nI, lit_nI, nI_add, pk_mul, pk_sub, nI_clamp, inB_nI, gd_true, bnd_def, nI_leI, nI_ltI, nI_eq, nI_mI, mI_nI, nle_T, nle_F, nlt_T, nlt_F, neq_T, neq_F, ↓reduceIte, Nat.add_zero, Nat.zero_add, Nat.mul_zero, Nat.reduceAdd, Nat.reduceMul, Nat.reduceSub, ob1_e, ob2_e, ob3_e, ob4_e, ob6_e]
            · have hpm : pMet c o = true := by unfold pMet; rw [decide_eq_true fo]
              rw [hpm, Bool.true_or] at hbo
              obtain ⟨bs', b', lt', st', e1, e2, e3, e4⟩ := ihi (o + 1) n n' bs br fd mr ms0 mf lt st (by omega) (by omega) (by omega) (hSn hS)
              refine ⟨bs', b', lt', st', ?_, ?_, e3, e4⟩
              · rw [← e1]
                simp (disch := omega) only [f_X4_search_50, b_X4_search_50, b_X4_search_125, t1, bit1, hbo, neg_nI, lit_nI, nI_add, pk_mul, pk_sub, nI_clamp, inB_nI, gd_true, bnd_def, nI_leI, nI_ltI, nI_eq, nI_mI, mI_nI, nle_T, nle_F, nlt_T, nlt_F, neq_T, neq_F, ↓reduceIte, Nat.add_zero, Nat.zero_add, Nat.mul_zero, Nat.reduceAdd, Nat.reduceMul, Nat.reduceSub, ob1_e, ob2_e, ob3_e, ob4_e, ob6_e]
              · rw [← e2]
                simp (disch := omega) only [f_X12_tryPairs_90, b_X12_tryPairs_90, b_X12_tryPairs_157, areTwo_c, g1, g2, e0, t1, isFree_c, mfo, fo, neg_nI, lit_nI, nI_add, pk_mul, pk_sub, nI_clamp, inB_nI, gd_true, bnd_def, nI_leI, nI_ltI, nI_eq, nI_mI, mI_nI, nle_T, nle_F, nlt_T, nlt_F, neq_T, neq_F, ↓reduceIte, Nat.add_zero, Nat.zero_add, Nat.mul_zero, Nat.reduceAdd, Nat.reduceMul, Nat.reduceSub, ob1_e, ob2_e, ob3_e, ob4_e, ob6_e]
      have hS2 : SR G th (cnt (thE th c) (nI 0) G) (lo + 0 * w') bs br fd mr ms0 mf := by
        rw [Nat.zero_mul, Nat.add_zero]
        exact hS
      obtain ⟨bs', b', lt', st', e1, e2, e3, e4⟩ := loop G 0 fu fu bs br fd mr ms0 mf lt st (by omega) (by have := fu_le; omega) (by have := fu_le; omega) hS2
      refine ⟨bs', b', lt', st', ?_, ?_, e3, e4⟩
      · show g_X4_search (rc_X4_search D) (nI G) th _ un ri bs br fd _ taken (nI r) sum = _
        rw [← e1]
        simp (disch := omega) only [g_X4_search, b_X4_search_0, neg_nI, lit_nI, nI_add, pk_mul, pk_sub, nI_clamp, inB_nI, gd_true, bnd_def, nI_leI, nI_ltI, nI_eq, nI_mI, mI_nI, nle_T, nle_F, nlt_T, nlt_F, neq_T, neq_F, ↓reduceIte, Nat.add_zero, Nat.zero_add, Nat.mul_zero, Nat.reduceAdd, Nat.reduceMul, Nat.reduceSub, ob1_e, ob2_e, ob3_e, ob4_e, ob6_e]
      · show g_X12_tryPairs (rc_X12_tryPairs D') (nI G) mh mc mv mk mt ms mu mg m mr ms0 mf lt st (nI g) gone (nI r) sum = _
        rw [← e2]
        have e0 := hE.1
        have f0 := hE.2
        simp (disch := omega) only [g_X12_tryPairs, b_X12_tryPairs_0, of_c, g1, e0, isFree_c, mfr, f0, neg_nI, lit_nI, nI_add, pk_mul, pk_sub, nI_clamp, inB_nI, gd_true, bnd_def, nI_leI, nI_ltI, nI_eq, nI_mI, mI_nI, nle_T, nle_F, nlt_T, nlt_F, neq_T, neq_F, ↓reduceIte, Nat.add_zero, Nat.zero_add, Nat.mul_zero, Nat.reduceAdd, Nat.reduceMul, Nat.reduceSub, ob1_e, ob2_e, ob3_e, ob4_e, ob6_e]
    · have ee := thE_n hE
      have hc1 := cnt_n ee
      obtain ⟨bs', b', lt', st', e1, e2, e3, e4⟩ := ih (g + 1) D D' L lo w r taken gone sum bs br fd mr ms0 mf lt st (by omega) (by omega) (by omega) (by omega) hw hlo h6 (by rw [hc1]; exact hV) hB hS
      rw [hc1] at e1
      refine ⟨bs', b', lt', st', e1, ?_, e3, e4⟩
      have e2' : rc_X12_tryPairs D' (nI G) mh mc mv mk mt ms mu mg m mr ms0 mf lt st (nI (g + 1)) gone (nI r) sum = some (nI b', bs', nI 1, lt', st') := e2
      show g_X12_tryPairs (rc_X12_tryPairs D') (nI G) mh mc mv mk mt ms mu mg m mr ms0 mf lt st (nI g) gone (nI r) sum = _
      by_cases e0 : th g = nI 0
      · have f0 : ¬ c (54 + g) = mI 1 := fun z => hE ⟨e0, z⟩
        simp (disch := omega) only [g_X12_tryPairs, b_X12_tryPairs_0, b_X12_tryPairs_75, of_c, g1, e0, isFree_c, mfr, f0, e2', ob5_e, neg_nI, lit_nI, nI_add, pk_mul, pk_sub, nI_clamp, inB_nI, gd_true, bnd_def, nI_leI, nI_ltI, nI_eq, nI_mI, mI_nI, nle_T, nle_F, nlt_T, nlt_F, neq_T, neq_F, ↓reduceIte, Nat.add_zero, Nat.zero_add, Nat.mul_zero, Nat.reduceAdd, Nat.reduceMul, Nat.reduceSub, ob1_e, ob2_e, ob3_e, ob4_e, ob6_e]
      · simp (disch := omega) only [g_X12_tryPairs, b_X12_tryPairs_0, b_X12_tryPairs_75, of_c, g1, e0, e2', ob5_e, neg_nI, lit_nI, nI_add, pk_mul, pk_sub, nI_clamp, inB_nI, gd_true, bnd_def, nI_leI, nI_ltI, nI_eq, nI_mI, mI_nI, nle_T, nle_F, nlt_T, nlt_F, neq_T, neq_F, ↓reduceIte, Nat.add_zero, Nat.zero_add, Nat.mul_zero, Nat.reduceAdd, Nat.reduceMul, Nat.reduceSub, ob1_e, ob2_e, ob3_e, ob4_e, ob6_e]
end MA
end
section
/-! pairs; allKnow answers -/
def vm (k : Nat) : Int32 := if k = 0 then mI 1 else nI (k - 1)
theorem vm_0 : vm 0 = mI 1 := (rfl)
theorem vm_s (k : Nat) : vm (k + 1) = nI k := (rfl)
theorem vm_m {k : Nat} (h : k ≤ 6) : nI k + mI 1 = vm k := by
  cases k with
  | zero => decide
  | succ k => exact pk_m1 k
theorem vm_1 {k : Nat} (h : k ≤ 6) : nI k - nI 1 = vm k := by
  cases k with
  | zero => decide
  | succ k => rw [pk_sub (by omega)]; rfl
theorem m1_lt : (mI 1 < nI 0) = True := eq_true (by decide)
theorem RN.refl (G M : Nat) (c : Nat → Int32) : RN G M c c := fun _ _ => rfl
section KN
variable {R : R6} {lh : Int32} {ll l0 l1 l2 l3 : Nat → Int32} {mh : Int32} {mc mv mk mt ms mu : Nat → Int32}
variable {G M : Nat} {th ta tn mg mm c m : Nat → Int32}
theorem lay_c (hX : RiseX R lh ll l0 l1 l2 l3) (hY : RiseY R mh mc mv mk mt ms mu) (hG : G ≤ 6) (hh : ∀ g, g < G → mg (4 * g) = th g) (ha : ∀ g, g < G → mg (4 * g + 3) = ta g) (h01 : ∀ g, g < G → th g = nI 0 ∨ th g = nI 1) (hN : RN G M c m) (lt st lt2 st2 un ri : Nat → Int32) (sz bs br fd mr ms0 mf : Int32) : ∃ lt' st' bs' b' un' ri' lt2' st2', f_X4_solve (nI G) th ta lh ll l0 l1 l2 l3 c lt st sz bs br fd un ri = some (lt', st', nI (cnt (thE th c) (nI 0) G), bs', nI b', nI 1, un', ri') ∧ f_X12_layPairs (nI G) mh mc mv mk mt ms mu mg m mr ms0 mf lt2 st2 = some (nI b', bs', nI 1, lt2', st2') ∧ DV G th (cnt (thE th c) (nI 0) G) b' ∧ b' < 1000000 := by
  obtain ⟨lt', st', un', ri', e1, e2⟩ := solve_out (th := th) (ta := ta) (c := c) hX hG (bs := bs) (br := br) (fd := fd) G 0 fu lt st un ri (by omega) (by have := fu_le; omega) (fun t ht => by omega)
  have hSle := cnt_le (thE th c) (nI 0) G
  have hp6 : 10 ^ (cnt (thE th c) (nI 0) G) ≤ 10 ^ 6 := Nat.pow_le_pow_right (by omega) (by omega)
  have hp7 : (10 : Nat) ^ 6 = 1000000 := by decide
  obtain ⟨bs', b', lt2', st2', x1, x2, x3, x4⟩ := srch hY hG hh ha h01 hN e2 G 0 60 60 (cnt (thE th c) (nI 0) G) 0 (10 ^ (cnt (thE th c) (nI 0) G)) 0 (bbF (pMet c) G 0 (nI 0)) (nI 0) (nI 0) bs br (nI 0) mr ms0 (nI 0) lt2 st2 (by omega) (by omega) (by omega) (by show 0 + _ = _; omega) rfl (by omega) (by omega) (by show True; trivial) (by
    intro o ho
    rw [b_bbF (by omega) G 0 _ (by omega), b_z o (by omega), decide_eq_true (by omega)]
    simp) (Or.inl ⟨rfl, rfl⟩)
  have x1' : f_X4_search 60 (nI G) th (nI (cnt (thE th c) (nI 0) G)) un' ri' bs br (nI 0) (nI 0) (bbF (pMet c) G 0 (nI 0)) (nI 0) (nI 0) = some (bs', nI b', nI 1) := x1
  have e1' : f_X4_solve (nI G) th ta lh ll l0 l1 l2 l3 c lt st sz bs br fd un ri = ob3 (f_X4_search 60 (nI G) th (nI (cnt (thE th c) (nI 0) G)) un' ri' bs br (nI 0) (nI 0) (bbF (pMet c) G 0 (nI 0)) (nI 0) (nI 0)) (fun x y z => some (lt', st', nI (cnt (thE th c) (nI 0) G), x, y, z, un', ri')) := e1
  refine ⟨lt', st', bs', b', un', ri', lt2', st2', ?_, ?_, x4, by omega⟩
  · rw [e1', x1', ob3_e]
  · unfold f_X12_layPairs b_X12_layPairs_0
    have x2' : f_X12_tryPairs 60 (nI G) mh mc mv mk mt ms mu mg m mr ms0 (0 : Int32) lt2 st2 (0 : Int32) (0 : Int32) (0 : Int32) (0 : Int32) = some (nI b', bs', nI 1, lt2', st2') := x2
    rw [x2', ob5_e]
theorem fof_l (hG : G ≤ 6) (hh : ∀ g, g < G → mg (4 * g) = th g) (hN : RN G M c m) : ∀ (j k n : Nat), k + j = G → j < n → f_X12_freeOfFirst_4 (nI G) mg m n (nI (cnt (thE th c) (nI 0) k)) (nI k) = some (nI (cnt (thE th c) (nI 0) G)) := by
  intro j
  induction j with
  | zero =>
    intro k n hk h1
    obtain ⟨n, rfl⟩ : ∃ q, n = q + 1 := ⟨n - 1, by omega⟩
    have : k = G := by omega
    subst this
    simp (disch := omega) only [f_X12_freeOfFirst_4, b_X12_freeOfFirst_4, neg_nI, lit_nI, nI_add, pk_mul, pk_sub, nI_clamp, inB_nI, gd_true, bnd_def, nI_leI, nI_ltI, nI_eq, nI_mI, mI_nI, nle_T, nle_F, nlt_T, nlt_F, neq_T, neq_F, ↓reduceIte, Nat.add_zero, Nat.zero_add, Nat.mul_zero, Nat.reduceAdd, Nat.reduceMul, Nat.reduceSub, ob1_e, ob2_e, ob3_e, ob4_e, ob6_e]
  | succ j ih =>
    intro k n hk h1
    obtain ⟨n, rfl⟩ : ∃ q, n = q + 1 := ⟨n - 1, by omega⟩
    have g1 := hh k (by omega)
    have f1 : m (54 + k) = c (54 + k) := hN _ (by omega)
    have i1 := ih (k + 1) n (by omega) (by omega)
    by_cases e0 : th k = nI 0
    · by_cases f0 : c (54 + k) = mI 1
      · rw [cnt_y (thE_y e0 f0)] at i1
        simp (disch := omega) only [f_X12_freeOfFirst_4, f_X12_freeOfFirst, b_X12_freeOfFirst_35, b_X12_freeOfFirst_34, b_X12_freeOfFirst_4, b_X12_freeOfFirst_0, of_c, g1, e0, isFree_c, f1, f0, i1, neg_nI, lit_nI, nI_add, pk_mul, pk_sub, nI_clamp, inB_nI, gd_true, bnd_def, nI_leI, nI_ltI, nI_eq, nI_mI, mI_nI, nle_T, nle_F, nlt_T, nlt_F, neq_T, neq_F, ↓reduceIte, Nat.add_zero, Nat.zero_add, Nat.mul_zero, Nat.reduceAdd, Nat.reduceMul, Nat.reduceSub, ob1_e, ob2_e, ob3_e, ob4_e, ob6_e]
      · rw [cnt_n (thE_n (fun z => f0 z.2))] at i1
        simp (disch := omega) only [f_X12_freeOfFirst_4, f_X12_freeOfFirst, b_X12_freeOfFirst_35, b_X12_freeOfFirst_34, b_X12_freeOfFirst_4, b_X12_freeOfFirst_0, of_c, g1, e0, isFree_c, f1, f0, i1, add0, neg_nI, lit_nI, nI_add, pk_mul, pk_sub, nI_clamp, inB_nI, gd_true, bnd_def, nI_leI, nI_ltI, nI_eq, nI_mI, mI_nI, nle_T, nle_F, nlt_T, nlt_F, neq_T, neq_F, ↓reduceIte, Nat.add_zero, Nat.zero_add, Nat.mul_zero, Nat.reduceAdd, Nat.reduceMul, Nat.reduceSub, ob1_e, ob2_e, ob3_e, ob4_e, ob6_e]
    · rw [cnt_n (thE_n (fun z => e0 z.1))] at i1
      simp (disch := omega) only [f_X12_freeOfFirst_4, f_X12_freeOfFirst, b_X12_freeOfFirst_35, b_X12_freeOfFirst_34, b_X12_freeOfFirst_4, b_X12_freeOfFirst_0, of_c, g1, e0, i1, add0, neg_nI, lit_nI, nI_add, pk_mul, pk_sub, nI_clamp, inB_nI, gd_true, bnd_def, nI_leI, nI_ltI, nI_eq, nI_mI, mI_nI, nle_T, nle_F, nlt_T, nlt_F, neq_T, neq_F, ↓reduceIte, Nat.add_zero, Nat.zero_add, Nat.mul_zero, Nat.reduceAdd, Nat.reduceMul, Nat.reduceSub, ob1_e, ob2_e, ob3_e, ob4_e, ob6_e]
theorem s_pairs (hX : RiseX R lh ll l0 l1 l2 l3) (hY : RiseY R mh mc mv mk mt ms mu) (hG : G ≤ 6) (hh : ∀ g, g < G → mg (4 * g) = th g) (ha : ∀ g, g < G → mg (4 * g + 3) = ta g) (h01 : ∀ g, g < G → th g = nI 0 ∨ th g = nI 1) (hN : RN G M c m) (lt st lt2 st2 un ri : Nat → Int32) (sz bs br fd mr ms0 mf v : Int32) (hz : isZ fd = true) (hz2 : isZ mf = true) : ∃ r lt' st' sz' bs' br' fd' un' ri' mr' ms0' mf' lt2' st2', f_X11_pairs (nI G) th ta lh ll l0 l1 l2 l3 c lt st sz bs br fd un ri v = some (r, lt', st', sz', bs', br', fd', un', ri') ∧ f_X12_pairs (nI G) mh mc mv mk mt ms mu mg m mr ms0 mf lt2 st2 v = some (r, mr', ms0', mf', lt2', st2') ∧ isZ fd' = true ∧ isZ mf' = true := by
  by_cases g0 : G = 0
  · refine ⟨mI 1000000, lt, st, sz, bs, br, fd, un, ri, mr, ms0, mf, lt2, st2, ?_, ?_, hz, hz2⟩
    · simp (disch := omega) only [f_X11_pairs, b_X11_pairs_16, b_X11_pairs_0, noPeace_y g0, neg_nI, lit_nI, nI_add, pk_mul, pk_sub, nI_clamp, inB_nI, gd_true, bnd_def, nI_leI, nI_ltI, nI_eq, nI_mI, mI_nI, nle_T, nle_F, nlt_T, nlt_F, neq_T, neq_F, ↓reduceIte, Nat.add_zero, Nat.zero_add, Nat.mul_zero, Nat.reduceAdd, Nat.reduceMul, Nat.reduceSub, ob1_e, ob2_e, ob3_e, ob4_e, ob6_e]
    · simp (disch := omega) only [f_X12_pairs, b_X12_pairs_16, b_X12_pairs_0, neg_nI, lit_nI, nI_add, pk_mul, pk_sub, nI_clamp, inB_nI, gd_true, bnd_def, nI_leI, nI_ltI, nI_eq, nI_mI, mI_nI, nle_T, nle_F, nlt_T, nlt_F, neq_T, neq_F, ↓reduceIte, Nat.add_zero, Nat.zero_add, Nat.mul_zero, Nat.reduceAdd, Nat.reduceMul, Nat.reduceSub, ob1_e, ob2_e, ob3_e, ob4_e, ob6_e]
  · rcases rng v 1 (by omega) with ⟨k, hk, rfl⟩ | k0 | ⟨k0, k1, k2⟩
    · obtain ⟨lt', st', bs', b', un', ri', lt2', st2', e1, e2, -, hb6⟩ := lay_c hX hY hG hh ha h01 hN lt st lt2 st2 un ri sz bs br fd mr ms0 mf
      have hf : f_X12_freeOfFirst (nI G) mg m = some (nI (cnt (thE th c) (nI 0) G)) := fof_l hG hh hN G 0 fu (by omega) (by have := fu_le; omega)
      have hSle := cnt_le (thE th c) (nI 0) G
      rcases (show k = 0 ∨ k = 1 by omega) with rfl | rfl
      · by_cases s0 : cnt (thE th c) (nI 0) G = 0
        · refine ⟨mI 1, lt', st', nI (cnt (thE th c) (nI 0) G), bs', nI b', nI 1, un', ri', nI b', bs', nI 1, lt2', st2', ?_, ?_, rfl, rfl⟩
          · simp (disch := omega) only [f_X11_pairs, b_X11_pairs_16, b_X11_pairs_0, noPeace_n, e1, ob8_e, s0, neg_nI, lit_nI, nI_add, pk_mul, pk_sub, nI_clamp, inB_nI, gd_true, bnd_def, nI_leI, nI_ltI, nI_eq, nI_mI, mI_nI, nle_T, nle_F, nlt_T, nlt_F, neq_T, neq_F, ↓reduceIte, Nat.add_zero, Nat.zero_add, Nat.mul_zero, Nat.reduceAdd, Nat.reduceMul, Nat.reduceSub, ob1_e, ob2_e, ob3_e, ob4_e, ob6_e]
          · simp (disch := omega) only [f_X12_pairs, b_X12_pairs_16, b_X12_pairs_0, in_c, e2, ob5_e, hf, s0, neg_nI, lit_nI, nI_add, pk_mul, pk_sub, nI_clamp, inB_nI, gd_true, bnd_def, nI_leI, nI_ltI, nI_eq, nI_mI, mI_nI, nle_T, nle_F, nlt_T, nlt_F, neq_T, neq_F, ↓reduceIte, Nat.add_zero, Nat.zero_add, Nat.mul_zero, Nat.reduceAdd, Nat.reduceMul, Nat.reduceSub, ob1_e, ob2_e, ob3_e, ob4_e, ob6_e]
        · refine ⟨nI b', lt', st', nI (cnt (thE th c) (nI 0) G), bs', nI b', nI 1, un', ri', nI b', bs', nI 1, lt2', st2', ?_, ?_, rfl, rfl⟩
          · simp (disch := omega) only [f_X11_pairs, b_X11_pairs_16, b_X11_pairs_0, noPeace_n, e1, ob8_e, neg_nI, lit_nI, nI_add, pk_mul, pk_sub, nI_clamp, inB_nI, gd_true, bnd_def, nI_leI, nI_ltI, nI_eq, nI_mI, mI_nI, nle_T, nle_F, nlt_T, nlt_F, neq_T, neq_F, ↓reduceIte, Nat.add_zero, Nat.zero_add, Nat.mul_zero, Nat.reduceAdd, Nat.reduceMul, Nat.reduceSub, ob1_e, ob2_e, ob3_e, ob4_e, ob6_e]
          · simp (disch := omega) only [f_X12_pairs, b_X12_pairs_16, b_X12_pairs_0, in_c, e2, ob5_e, hf, neg_nI, lit_nI, nI_add, pk_mul, pk_sub, nI_clamp, inB_nI, gd_true, bnd_def, nI_leI, nI_ltI, nI_eq, nI_mI, mI_nI, nle_T, nle_F, nlt_T, nlt_F, neq_T, neq_F, ↓reduceIte, Nat.add_zero, Nat.zero_add, Nat.mul_zero, Nat.reduceAdd, Nat.reduceMul, Nat.reduceSub, ob1_e, ob2_e, ob3_e, ob4_e, ob6_e]
      · refine ⟨bs', lt', st', nI (cnt (thE th c) (nI 0) G), bs', nI b', nI 1, un', ri', nI b', bs', nI 1, lt2', st2', ?_, ?_, rfl, rfl⟩
        · simp (disch := omega) only [f_X11_pairs, b_X11_pairs_16, b_X11_pairs_0, noPeace_n, e1, ob8_e, neg_nI, lit_nI, nI_add, pk_mul, pk_sub, nI_clamp, inB_nI, gd_true, bnd_def, nI_leI, nI_ltI, nI_eq, nI_mI, mI_nI, nle_T, nle_F, nlt_T, nlt_F, neq_T, neq_F, ↓reduceIte, Nat.add_zero, Nat.zero_add, Nat.mul_zero, Nat.reduceAdd, Nat.reduceMul, Nat.reduceSub, ob1_e, ob2_e, ob3_e, ob4_e, ob6_e]
        · simp (disch := omega) only [f_X12_pairs, b_X12_pairs_16, b_X12_pairs_0, in_c, e2, ob5_e, neg_nI, lit_nI, nI_add, pk_mul, pk_sub, nI_clamp, inB_nI, gd_true, bnd_def, nI_leI, nI_ltI, nI_eq, nI_mI, mI_nI, nle_T, nle_F, nlt_T, nlt_F, neq_T, neq_F, ↓reduceIte, Nat.add_zero, Nat.zero_add, Nat.mul_zero, Nat.reduceAdd, Nat.reduceMul, Nat.reduceSub, ob1_e, ob2_e, ob3_e, ob4_e, ob6_e]
    · refine ⟨mI 1000000, lt, st, sz, bs, br, fd, un, ri, mr, ms0, mf, lt2, st2, ?_, ?_, hz, hz2⟩
      · simp (disch := omega) only [f_X11_pairs, b_X11_pairs_16, b_X11_pairs_0, noPeace_n, k0, neg_nI, lit_nI, nI_add, pk_mul, pk_sub, nI_clamp, inB_nI, gd_true, bnd_def, nI_leI, nI_ltI, nI_eq, nI_mI, mI_nI, nle_T, nle_F, nlt_T, nlt_F, neq_T, neq_F, ↓reduceIte, Nat.add_zero, Nat.zero_add, Nat.mul_zero, Nat.reduceAdd, Nat.reduceMul, Nat.reduceSub, ob1_e, ob2_e, ob3_e, ob4_e, ob6_e]
      · simp (disch := omega) only [f_X12_pairs, b_X12_pairs_16, b_X12_pairs_0, in_lo (hi := nI 1) k0, neg_nI, lit_nI, nI_add, pk_mul, pk_sub, nI_clamp, inB_nI, gd_true, bnd_def, nI_leI, nI_ltI, nI_eq, nI_mI, mI_nI, nle_T, nle_F, nlt_T, nlt_F, neq_T, neq_F, ↓reduceIte, Nat.add_zero, Nat.zero_add, Nat.mul_zero, Nat.reduceAdd, Nat.reduceMul, Nat.reduceSub, ob1_e, ob2_e, ob3_e, ob4_e, ob6_e]
    · refine ⟨mI 1000000, lt, st, sz, bs, br, fd, un, ri, mr, ms0, mf, lt2, st2, ?_, ?_, hz, hz2⟩
      · simp (disch := omega) only [f_X11_pairs, b_X11_pairs_16, b_X11_pairs_0, noPeace_n, k0, k2, neg_nI, lit_nI, nI_add, pk_mul, pk_sub, nI_clamp, inB_nI, gd_true, bnd_def, nI_leI, nI_ltI, nI_eq, nI_mI, mI_nI, nle_T, nle_F, nlt_T, nlt_F, neq_T, neq_F, ↓reduceIte, Nat.add_zero, Nat.zero_add, Nat.mul_zero, Nat.reduceAdd, Nat.reduceMul, Nat.reduceSub, ob1_e, ob2_e, ob3_e, ob4_e, ob6_e]
      · simp (disch := omega) only [f_X12_pairs, b_X12_pairs_16, b_X12_pairs_0, in_hi (lo := nI 0) k1, neg_nI, lit_nI, nI_add, pk_mul, pk_sub, nI_clamp, inB_nI, gd_true, bnd_def, nI_leI, nI_ltI, nI_eq, nI_mI, mI_nI, nle_T, nle_F, nlt_T, nlt_F, neq_T, neq_F, ↓reduceIte, Nat.add_zero, Nat.zero_add, Nat.mul_zero, Nat.reduceAdd, Nat.reduceMul, Nat.reduceSub, ob1_e, ob2_e, ob3_e, ob4_e, ob6_e]
/-! the class's allKnow -/
theorem allX_l (hG : G ≤ 6) : ∀ (j k n : Nat), k + j = G → j < n → ∃ b, f_X9_allKnown_2 (nI G) c n (nI k) = some (bz b) := by
  intro j
  induction j with
  | zero =>
    intro k n hk h1
    obtain ⟨n, rfl⟩ : ∃ q, n = q + 1 := ⟨n - 1, by omega⟩
    exact ⟨true, by simp (disch := omega) only [f_X9_allKnown_2, b_X9_allKnown_2, bz_t, neg_nI, lit_nI, nI_add, pk_mul, pk_sub, nI_clamp, inB_nI, gd_true, bnd_def, nI_leI, nI_ltI, nI_eq, nI_mI, mI_nI, nle_T, nle_F, nlt_T, nlt_F, neq_T, neq_F, ↓reduceIte, Nat.add_zero, Nat.zero_add, Nat.mul_zero, Nat.reduceAdd, Nat.reduceMul, Nat.reduceSub, ob1_e, ob2_e, ob3_e, ob4_e, ob6_e]⟩
  | succ j ih =>
    intro k n hk h1
    obtain ⟨n, rfl⟩ : ∃ q, n = q + 1 := ⟨n - 1, by omega⟩
    by_cases e : c (48 + k) = (nI 1 <<< (nI G &&& nI 31)) - nI 1
    · obtain ⟨b, e1⟩ := ih (k + 1) n (by omega) (by omega)
      exact ⟨b, by simp (disch := omega) only [f_X9_allKnown_2, b_X9_allKnown_2, knows_c, e, e1, neg_nI, lit_nI, nI_add, pk_mul, pk_sub, nI_clamp, inB_nI, gd_true, bnd_def, nI_leI, nI_ltI, nI_eq, nI_mI, mI_nI, nle_T, nle_F, nlt_T, nlt_F, neq_T, neq_F, ↓reduceIte, Nat.add_zero, Nat.zero_add, Nat.mul_zero, Nat.reduceAdd, Nat.reduceMul, Nat.reduceSub, ob1_e, ob2_e, ob3_e, ob4_e, ob6_e]⟩
    · exact ⟨false, by simp (disch := omega) only [f_X9_allKnown_2, b_X9_allKnown_2, knows_c, e, bz_f, neg_nI, lit_nI, nI_add, pk_mul, pk_sub, nI_clamp, inB_nI, gd_true, bnd_def, nI_leI, nI_ltI, nI_eq, nI_mI, mI_nI, nle_T, nle_F, nlt_T, nlt_F, neq_T, neq_F, ↓reduceIte, Nat.add_zero, Nat.zero_add, Nat.mul_zero, Nat.reduceAdd, Nat.reduceMul, Nat.reduceSub, ob1_e, ob2_e, ob3_e, ob4_e, ob6_e]⟩
theorem perf_l (hX : RiseX R lh ll l0 l1 l2 l3) (hY : RiseY R mh mc mv mk mt ms mu) (hG : G ≤ 6) (hM : M ≤ 5) (hh : ∀ g, g < G → mg (4 * g) = th g) (ha : ∀ g, g < G → mg (4 * g + 3) = ta g) (hn : ∀ k, k < M → mm (2 * k + 1) = tn k) {sz br : Int32} {un : Nat → Int32} : ∀ (k n : Nat) (lt st c : Nat → Int32) (row : Int32), k ≤ 6 → k < n → IV G th c → ∃ lt' st' c', f_X4_perform_12 (nI G) (nI M) th ta tn lh ll l0 l1 l2 l3 sz br un n lt st c row (vm k) = some (lt', st', c') ∧ IV G th c' ∧ c' 68 = c 68 := by
  intro k
  induction k with
  | zero =>
    intro n lt st c row hk h1 hI
    obtain ⟨n, rfl⟩ : ∃ q, n = q + 1 := ⟨n - 1, by omega⟩
    refine ⟨lt, st, c, ?_, hI, rfl⟩
    simp (disch := omega) only [f_X4_perform_12, b_X4_perform_12, vm_0, m1_lt, neg_nI, lit_nI, nI_add, pk_mul, pk_sub, nI_clamp, inB_nI, gd_true, bnd_def, nI_leI, nI_ltI, nI_eq, nI_mI, mI_nI, nle_T, nle_F, nlt_T, nlt_F, neq_T, neq_F, ↓reduceIte, Nat.add_zero, Nat.zero_add, Nat.mul_zero, Nat.reduceAdd, Nat.reduceMul, Nat.reduceSub, ob1_e, ob2_e, ob3_e, ob4_e, ob6_e]
  | succ k ih =>
    intro n lt st c row hk h1 hI
    obtain ⟨n, rfl⟩ : ∃ q, n = q + 1 := ⟨n - 1, by omega⟩
    rcases two_or (un k) (rem row (nI 10)) (th := th) (mg := mg) hG hh with ⟨g, o, hg, ho, eg, eo, ht⟩ | ⟨q1, -⟩
    · obtain ⟨lt1, st1, c1, lt2, st2, m1, x1, -, -, x4, x5, -⟩ := meet_l hX hY hG hM ha hn (RN.refl G M c) hI hg ho ht lt st lt st
      obtain ⟨lt', st', c', e1, e2, e3⟩ := ih n lt1 st1 c1 (row / nI 10) (by omega) (by omega) x4
      refine ⟨lt', st', c', ?_, e2, by rw [e3, x5 68 (by omega)]⟩
      rw [← e1]
      simp (disch := omega) only [f_X4_perform_12, b_X4_perform_12, b_X4_perform_50, vm_s, vm_m, eg, eo, unlike_c, ht, x1, neg_nI, lit_nI, nI_add, pk_mul, pk_sub, nI_clamp, inB_nI, gd_true, bnd_def, nI_leI, nI_ltI, nI_eq, nI_mI, mI_nI, nle_T, nle_F, nlt_T, nlt_F, neq_T, neq_F, ↓reduceIte, Nat.add_zero, Nat.zero_add, Nat.mul_zero, Nat.reduceAdd, Nat.reduceMul, Nat.reduceSub, ob1_e, ob2_e, ob3_e, ob4_e, ob6_e]
    · obtain ⟨lt', st', c', e1, e2, e3⟩ := ih n lt st c (row / nI 10) (by omega) (by omega) hI
      refine ⟨lt', st', c', ?_, e2, e3⟩
      rw [← e1]
      simp (disch := omega) only [f_X4_perform_12, b_X4_perform_12, b_X4_perform_50, vm_s, vm_m, q1, neg_nI, lit_nI, nI_add, pk_mul, pk_sub, nI_clamp, inB_nI, gd_true, bnd_def, nI_leI, nI_ltI, nI_eq, nI_mI, mI_nI, nle_T, nle_F, nlt_T, nlt_F, neq_T, neq_F, ↓reduceIte, Nat.add_zero, Nat.zero_add, Nat.mul_zero, Nat.reduceAdd, Nat.reduceMul, Nat.reduceSub, ob1_e, ob2_e, ob3_e, ob4_e, ob6_e]
theorem knowX_l (hX : RiseX R lh ll l0 l1 l2 l3) (hY : RiseY R mh mc mv mk mt ms mu) (hG : G ≤ 6) (hM : M ≤ 5) (hh : ∀ g, g < G → mg (4 * g) = th g) (ha : ∀ g, g < G → mg (4 * g + 3) = ta g) (hn : ∀ k, k < M → mm (2 * k + 1) = tn k) (h01 : ∀ g, g < G → th g = nI 0 ∨ th g = nI 1) {c0 : Nat → Int32} : ∀ (j k n : Nat) (lt st c un ri : Nat → Int32) (sz bs br fd : Int32), k + j = 31 → j < n → IV G th c → isZ fd = true → ∃ r lt' st' c' sz' bs' br' fd' un' ri', f_X11_allKnow_22 (nI G) (nI M) th ta tn lh ll l0 l1 l2 l3 c0 n lt st c sz bs br fd un ri (nI k) = some (r, lt', st', c', sz', bs', br', fd', un', ri') ∧ isZ fd' = true := by
  intro j
  induction j with
  | zero =>
    intro k n lt st c un ri sz bs br fd hk h1 hI hz
    obtain ⟨n, rfl⟩ : ∃ q, n = q + 1 := ⟨n - 1, by omega⟩
    refine ⟨mI 1, lt, st, c, sz, bs, br, fd, un, ri, ?_, hz⟩
    simp (disch := omega) only [f_X11_allKnow_22, b_X11_allKnow_22, neg_nI, lit_nI, nI_add, pk_mul, pk_sub, nI_clamp, inB_nI, gd_true, bnd_def, nI_leI, nI_ltI, nI_eq, nI_mI, mI_nI, nle_T, nle_F, nlt_T, nlt_F, neq_T, neq_F, ↓reduceIte, Nat.add_zero, Nat.zero_add, Nat.mul_zero, Nat.reduceAdd, Nat.reduceMul, Nat.reduceSub, ob1_e, ob2_e, ob3_e, ob4_e, ob6_e]
  | succ j ih =>
    intro k n lt st c un ri sz bs br fd hk h1 hI hz
    obtain ⟨n, rfl⟩ : ∃ q, n = q + 1 := ⟨n - 1, by omega⟩
    obtain ⟨b, hb⟩ := allX_l (c := c) hG G 0 fu (by omega) (by have := fu_le; omega)
    have hb' : f_X9_allKnown (nI G) c = some (bz b) := hb
    cases b with
    | true =>
      refine ⟨nI k, lt, st, c, sz, bs, br, fd, un, ri, ?_, hz⟩
      rw [bz_t] at hb'
      simp (disch := omega) only [f_X11_allKnow_22, b_X11_allKnow_22, hb', neg_nI, lit_nI, nI_add, pk_mul, pk_sub, nI_clamp, inB_nI, gd_true, bnd_def, nI_leI, nI_ltI, nI_eq, nI_mI, mI_nI, nle_T, nle_F, nlt_T, nlt_F, neq_T, neq_F, ↓reduceIte, Nat.add_zero, Nat.zero_add, Nat.mul_zero, Nat.reduceAdd, Nat.reduceMul, Nat.reduceSub, ob1_e, ob2_e, ob3_e, ob4_e, ob6_e]
    | false =>
      rw [bz_f] at hb'
      obtain ⟨lt1, st1, bs1, b1, un1, ri1, lt2, st2, e1, -, -, -⟩ := lay_c hX hY hG hh ha h01 (RN.refl G M c) lt st lt st un ri sz bs br fd (nI 0) (nI 0) (nI 0)
      have hSle := cnt_le (thE th c) (nI 0) G
      obtain ⟨lt3, st3, c3, p1, p2, p3⟩ := perf_l hX hY hG hM hh ha hn (sz := nI (cnt (thE th c) (nI 0) G)) (br := nI b1) (un := un1) (cnt (thE th c) (nI 0) G) fu lt1 st1 c (nI b1) (by omega) (by have := fu_le; omega) hI
      have p1' : f_X4_perform (nI G) (nI M) th ta tn lh ll l0 l1 l2 l3 (nI (cnt (thE th c) (nI 0) G)) (nI b1) un1 lt1 st1 c = some (lt3, st3, c3) := by
        rw [← p1]
        simp (disch := omega) only [f_X4_perform, b_X4_perform_0, bnd_def, lit_nI, vm_1]
      obtain ⟨d, hd9, ed⟩ := p2.2.2
      by_cases hd : d = 999
      · obtain ⟨r, lt', st', c', sz', bs', br', fd', un', ri', e2, e3⟩ := ih (k + 1) n lt3 st3 c3 un1 ri1 (nI (cnt (thE th c) (nI 0) G)) bs1 (nI b1) (nI 1) (by omega) (by omega) p2 rfl
        refine ⟨r, lt', st', c', sz', bs', br', fd', un', ri', ?_, e3⟩
        rw [← e2]
        simp (disch := omega) only [f_X11_allKnow_22, b_X11_allKnow_22, b_X11_allKnow_89, hb', e1, ob8_e, p1', day_c, ed, neg_nI, lit_nI, nI_add, pk_mul, pk_sub, nI_clamp, inB_nI, gd_true, bnd_def, nI_leI, nI_ltI, nI_eq, nI_mI, mI_nI, nle_T, nle_F, nlt_T, nlt_F, neq_T, neq_F, ↓reduceIte, Nat.add_zero, Nat.zero_add, Nat.mul_zero, Nat.reduceAdd, Nat.reduceMul, Nat.reduceSub, ob1_e, ob2_e, ob3_e, ob4_e, ob6_e]
      · obtain ⟨c4, c5, m5, r1, r2, -, -, r5, -, -, r8, r9, -⟩ := live_c hG hM hh (RN.refl G M c3) p2
        have hI5 : IV G th c5 := ⟨r5, fun g hg => by rw [r8 (36 + g) (by omega)]; exact p2.2.1 g hg, d + 1, by omega, by rw [r9, ed, nI_add]⟩
        obtain ⟨r, lt', st', c', sz', bs', br', fd', un', ri', e2, e3⟩ := ih (k + 1) n lt3 st3 c5 un1 ri1 (nI (cnt (thE th c) (nI 0) G)) bs1 (nI b1) (nI 1) (by omega) (by omega) hI5 rfl
        refine ⟨r, lt', st', c', sz', bs', br', fd', un', ri', ?_, e3⟩
        rw [← e2]
        simp (disch := omega) only [f_X11_allKnow_22, b_X11_allKnow_22, b_X11_allKnow_89, hb', e1, ob8_e, p1', day_c, ed, r1, r2, neg_nI, lit_nI, nI_add, pk_mul, pk_sub, nI_clamp, inB_nI, gd_true, bnd_def, nI_leI, nI_ltI, nI_eq, nI_mI, mI_nI, nle_T, nle_F, nlt_T, nlt_F, neq_T, neq_F, ↓reduceIte, Nat.add_zero, Nat.zero_add, Nat.mul_zero, Nat.reduceAdd, Nat.reduceMul, Nat.reduceSub, ob1_e, ob2_e, ob3_e, ob4_e, ob6_e]
theorem s_knowX (hX : RiseX R lh ll l0 l1 l2 l3) (hY : RiseY R mh mc mv mk mt ms mu) (hG : G ≤ 6) (hM : M ≤ 5) (hh : ∀ g, g < G → mg (4 * g) = th g) (ha : ∀ g, g < G → mg (4 * g + 3) = ta g) (hn : ∀ k, k < M → mm (2 * k + 1) = tn k) (h01 : ∀ g, g < G → th g = nI 0 ∨ th g = nI 1) (hI : IV G th c) (lt st ap un ri : Nat → Int32) (sz bs br fd : Int32) (hz : isZ fd = true) : ∃ r lt' st' c' sz' bs' br' fd' un' ri', f_X11_allKnow (nI G) (nI M) th ta tn lh ll l0 l1 l2 l3 c lt st ap sz bs br fd un ri = some (r, lt', st', c', sz', bs', br', fd', un', ri') ∧ isZ fd' = true := by
  by_cases g0 : G = 0
  · refine ⟨mI 1, lt, st, ap, sz, bs, br, fd, un, ri, ?_, hz⟩
    simp (disch := omega) only [f_X11_allKnow, b_X11_allKnow_0, noPeace_y g0, neg_nI, lit_nI, nI_add, pk_mul, pk_sub, nI_clamp, inB_nI, gd_true, bnd_def, nI_leI, nI_ltI, nI_eq, nI_mI, mI_nI, nle_T, nle_F, nlt_T, nlt_F, neq_T, neq_F, ↓reduceIte, Nat.add_zero, Nat.zero_add, Nat.mul_zero, Nat.reduceAdd, Nat.reduceMul, Nat.reduceSub, ob1_e, ob2_e, ob3_e, ob4_e, ob6_e]
  · have hI2 : IV G th (va_cpy c ap 0 0 69) := hI.cong hG fun i hi => cpy0 (by omega)
    obtain ⟨r, lt', st', c', sz', bs', br', fd', un', ri', e2, e3⟩ := knowX_l hX hY hG hM hh ha hn h01 (c0 := c) 31 0 fu lt st (va_cpy c ap 0 0 69) un ri sz bs br fd (by omega) (by have := fu_le; omega) hI2 hz
    refine ⟨r, lt', st', c', sz', bs', br', fd', un', ri', ?_, e3⟩
    rw [← e2]
    simp (disch := omega) only [f_X11_allKnow, b_X11_allKnow_0, noPeace_n, copyS_c, neg_nI, lit_nI, nI_add, pk_mul, pk_sub, nI_clamp, inB_nI, gd_true, bnd_def, nI_leI, nI_ltI, nI_eq, nI_mI, mI_nI, nle_T, nle_F, nlt_T, nlt_F, neq_T, neq_F, ↓reduceIte, Nat.add_zero, Nat.zero_add, Nat.mul_zero, Nat.reduceAdd, Nat.reduceMul, Nat.reduceSub, ob1_e, ob2_e, ob3_e, ob4_e, ob6_e]
end KN
end
section
/-! the model's allKnow answers, and puts its cells back -/
section KY
variable {R : R6} {lh : Int32} {ll l0 l1 l2 l3 : Nat → Int32} {mh : Int32} {mc mv mk mt ms mu : Nat → Int32}
variable {G M : Nat} {th ta tn mg mm c m : Nat → Int32}
theorem signY_t {g o : Nat} (hM : M ≤ 5) (hg : g < 6) (ho : o < 6) : ∀ (j k n : Nat) (m : Nat → Int32), k + j = M → j < n → ∃ m', f_X12_signNow_2 (nI M) mm n m (nI g) (nI o) (nI k) = some m' ∧ (∀ i, 66 ≤ i → m' i = m i) := by
  intro j
  induction j with
  | zero =>
    intro k n m hk h1
    obtain ⟨n, rfl⟩ : ∃ q, n = q + 1 := ⟨n - 1, by omega⟩
    exact ⟨m, by simp (disch := omega) only [f_X12_signNow_2, b_X12_signNow_2, neg_nI, lit_nI, nI_add, pk_mul, pk_sub, nI_clamp, inB_nI, gd_true, bnd_def, nI_leI, nI_ltI, nI_eq, nI_mI, mI_nI, nle_T, nle_F, nlt_T, nlt_F, neq_T, neq_F, ↓reduceIte, Nat.add_zero, Nat.zero_add, Nat.mul_zero, Nat.reduceAdd, Nat.reduceMul, Nat.reduceSub, ob1_e, ob2_e, ob3_e, ob4_e, ob6_e], fun _ _ => rfl⟩
  | succ j ih =>
    intro k n m hk h1
    obtain ⟨n, rfl⟩ : ∃ q, n = q + 1 := ⟨n - 1, by omega⟩
    have hp := pl_lt ⟨hg, ho⟩
    by_cases hs : m (60 + k) = mI 1
    · by_cases hw : m (pl g o) < mm (2 * k + 1)
      · obtain ⟨m', r1, r2⟩ := ih (k + 1) n m (by omega) (by omega)
        refine ⟨m', ?_, r2⟩
        rw [← r1]
        simp (disch := omega) only [f_X12_signNow_2, b_X12_signNow_2, b_X12_signNow_74, pairAt_c, inB_pl, pl_clamp, hs, hw, neg_nI, lit_nI, nI_add, pk_mul, pk_sub, nI_clamp, inB_nI, gd_true, bnd_def, nI_leI, nI_ltI, nI_eq, nI_mI, mI_nI, nle_T, nle_F, nlt_T, nlt_F, neq_T, neq_F, ↓reduceIte, Nat.add_zero, Nat.zero_add, Nat.mul_zero, Nat.reduceAdd, Nat.reduceMul, Nat.reduceSub, ob1_e, ob2_e, ob3_e, ob4_e, ob6_e]
      · refine ⟨upd (upd m (60 + k) (nI (cd g o))) 65 (upd m (60 + k) (nI (cd g o)) 65 ||| (nI 1 <<< (nI k &&& nI 31))), ?_, fun i hi => by rw [upd_n (by omega), upd_n (by omega)]⟩
        simp (disch := omega) only [f_X12_signNow_2, b_X12_signNow_2, b_X12_signNow_74, pairAt_c, codeOf_c, inB_pl, pl_clamp, hs, hw, neg_nI, lit_nI, nI_add, pk_mul, pk_sub, nI_clamp, inB_nI, gd_true, bnd_def, nI_leI, nI_ltI, nI_eq, nI_mI, mI_nI, nle_T, nle_F, nlt_T, nlt_F, neq_T, neq_F, ↓reduceIte, Nat.add_zero, Nat.zero_add, Nat.mul_zero, Nat.reduceAdd, Nat.reduceMul, Nat.reduceSub, ob1_e, ob2_e, ob3_e, ob4_e, ob6_e]
    · obtain ⟨m', r1, r2⟩ := ih (k + 1) n m (by omega) (by omega)
      refine ⟨m', ?_, r2⟩
      rw [← r1]
      simp (disch := omega) only [f_X12_signNow_2, b_X12_signNow_2, b_X12_signNow_74, hs, neg_nI, lit_nI, nI_add, pk_mul, pk_sub, nI_clamp, inB_nI, gd_true, bnd_def, nI_leI, nI_ltI, nI_eq, nI_mI, mI_nI, nle_T, nle_F, nlt_T, nlt_F, neq_T, neq_F, ↓reduceIte, Nat.add_zero, Nat.zero_add, Nat.mul_zero, Nat.reduceAdd, Nat.reduceMul, Nat.reduceSub, ob1_e, ob2_e, ob3_e, ob4_e, ob6_e]
theorem meetY_t (hY : RiseY R mh mc mv mk mt ms mu) (hM : M ≤ 5) {g o : Nat} (hg : g < 6) (ho : o < 6) (lt st m : Nat → Int32) : ∃ lt' st' m', f_X12_meetNow (nI M) mh mc mv mk mt ms mu mg mm lt st m (nI g) (nI o) = some (lt', st', m') ∧ (∀ i, 66 ≤ i → m' i = m i) := by
  have hp := pl_lt ⟨hg, ho⟩
  obtain ⟨lt', st', e2⟩ := riseOfY_c hY (mg := mg) (m := m) (lt := lt) (st := st) (g := g) (o := o) ⟨hg, ho⟩
  generalize hz : hd (m (pl g o) + rv R (tA mg) m g o (m (pl g o)) (m 68)) = z
  generalize hk : m (48 + g) ||| m (48 + o) = kk
  obtain ⟨m', s1, s2⟩ := signY_t (mm := mm) hM hg ho M 0 fu (mt4 m g o z kk) (by omega) (by have := fu_le; omega)
  have q : f_X12_signNow (nI M) mm (mt4 m g o z kk) (nI g) (nI o) = some m' := s1
  unfold mt4 at q
  refine ⟨lt', st', m', ?_, fun i hi => ?_⟩
  · simp (disch := omega) only [f_X12_meetNow, b_X12_meetNow_0, pairAt_c, e2, held_c, hz, inB_pl, pl_clamp, upd_n, hk, q, neg_nI, lit_nI, nI_add, pk_mul, pk_sub, nI_clamp, inB_nI, gd_true, bnd_def, nI_leI, nI_ltI, nI_eq, nI_mI, mI_nI, nle_T, nle_F, nlt_T, nlt_F, neq_T, neq_F, ↓reduceIte, Nat.add_zero, Nat.zero_add, Nat.mul_zero, Nat.reduceAdd, Nat.reduceMul, Nat.reduceSub, ob1_e, ob2_e, ob3_e, ob4_e, ob6_e]
  · rw [s2 i hi]
    unfold mt4
    rw [upd_n (by omega), upd_n (by omega), upd_n (by omega), upd_n (by omega), upd_n (by omega)]
theorem coolY_in (hG : G ≤ 6) {a : Nat} (ha : a < G) {k : (Nat → Int32) → Int32 → Option (Nat → Int32)} : ∀ (j b n : Nat) (m : Nat → Int32), b + j = G → j < n → ∃ m', f_X12_cool_14 (nI G) mg k n m (nI a) (nI b) = k m' (nI (a + 1)) ∧ (∀ i, 36 ≤ i → m' i = m i) := by
  intro j
  induction j with
  | zero =>
    intro b n m hb h1
    obtain ⟨n, rfl⟩ : ∃ q, n = q + 1 := ⟨n - 1, by omega⟩
    exact ⟨m, by simp (disch := omega) only [f_X12_cool_14, b_X12_cool_14, neg_nI, lit_nI, nI_add, pk_mul, pk_sub, nI_clamp, inB_nI, gd_true, bnd_def, nI_leI, nI_ltI, nI_eq, nI_mI, mI_nI, nle_T, nle_F, nlt_T, nlt_F, neq_T, neq_F, ↓reduceIte, Nat.add_zero, Nat.zero_add, Nat.mul_zero, Nat.reduceAdd, Nat.reduceMul, Nat.reduceSub, ob1_e, ob2_e, ob3_e, ob4_e, ob6_e], fun _ _ => rfl⟩
  | succ j ih =>
    intro b n m hb h1
    obtain ⟨n, rfl⟩ : ∃ q, n = q + 1 := ⟨n - 1, by omega⟩
    have hp := pl_lt (a := a) (b := b) ⟨by omega, by omega⟩
    by_cases ht : mg (4 * a) = mg (4 * b)
    · obtain ⟨m', r1, r2⟩ := ih (b + 1) n m (by omega) (by omega)
      refine ⟨m', ?_, r2⟩
      rw [← r1]
      simp (disch := omega) only [f_X12_cool_14, b_X12_cool_14, b_X12_cool_69, areTwo_c, ht, neg_nI, lit_nI, nI_add, pk_mul, pk_sub, nI_clamp, inB_nI, gd_true, bnd_def, nI_leI, nI_ltI, nI_eq, nI_mI, mI_nI, nle_T, nle_F, nlt_T, nlt_F, neq_T, neq_F, ↓reduceIte, Nat.add_zero, Nat.zero_add, Nat.mul_zero, Nat.reduceAdd, Nat.reduceMul, Nat.reduceSub, ob1_e, ob2_e, ob3_e, ob4_e, ob6_e]
    · by_cases hs : m (54 + a) = nI b
      · obtain ⟨m', r1, r2⟩ := ih (b + 1) n m (by omega) (by omega)
        refine ⟨m', ?_, r2⟩
        rw [← r1]
        simp (disch := omega) only [f_X12_cool_14, b_X12_cool_14, b_X12_cool_69, areTwo_c, ht, hs, neg_nI, lit_nI, nI_add, pk_mul, pk_sub, nI_clamp, inB_nI, gd_true, bnd_def, nI_leI, nI_ltI, nI_eq, nI_mI, mI_nI, nle_T, nle_F, nlt_T, nlt_F, neq_T, neq_F, ↓reduceIte, Nat.add_zero, Nat.zero_add, Nat.mul_zero, Nat.reduceAdd, Nat.reduceMul, Nat.reduceSub, ob1_e, ob2_e, ob3_e, ob4_e, ob6_e]
      · obtain ⟨m', r1, r2⟩ := ih (b + 1) n (upd m (pl a b) (hd (m (pl a b) - nI 1))) (by omega) (by omega)
        refine ⟨m', ?_, fun i hi => by rw [r2 i hi, upd_n (by omega)]⟩
        rw [← r1]
        simp (disch := omega) only [f_X12_cool_14, b_X12_cool_14, b_X12_cool_69, areTwo_c, pairAt_c, inB_pl, pl_clamp, held_c, ht, hs, neg_nI, lit_nI, nI_add, pk_mul, pk_sub, nI_clamp, inB_nI, gd_true, bnd_def, nI_leI, nI_ltI, nI_eq, nI_mI, mI_nI, nle_T, nle_F, nlt_T, nlt_F, neq_T, neq_F, ↓reduceIte, Nat.add_zero, Nat.zero_add, Nat.mul_zero, Nat.reduceAdd, Nat.reduceMul, Nat.reduceSub, ob1_e, ob2_e, ob3_e, ob4_e, ob6_e]
theorem coolY_t (hG : G ≤ 6) : ∀ (j a n : Nat) (m : Nat → Int32), a + j = G → j < n → ∃ m', f_X12_cool_2 (nI G) mg n m (nI a) = some m' ∧ (∀ i, 36 ≤ i → m' i = m i) := by
  intro j
  induction j with
  | zero =>
    intro a n m ha h1
    obtain ⟨n, rfl⟩ : ∃ q, n = q + 1 := ⟨n - 1, by omega⟩
    exact ⟨m, by simp (disch := omega) only [f_X12_cool_2, b_X12_cool_2, neg_nI, lit_nI, nI_add, pk_mul, pk_sub, nI_clamp, inB_nI, gd_true, bnd_def, nI_leI, nI_ltI, nI_eq, nI_mI, mI_nI, nle_T, nle_F, nlt_T, nlt_F, neq_T, neq_F, ↓reduceIte, Nat.add_zero, Nat.zero_add, Nat.mul_zero, Nat.reduceAdd, Nat.reduceMul, Nat.reduceSub, ob1_e, ob2_e, ob3_e, ob4_e, ob6_e], fun _ _ => rfl⟩
  | succ j ih =>
    intro a n m ha h1
    obtain ⟨n, rfl⟩ : ∃ q, n = q + 1 := ⟨n - 1, by omega⟩
    obtain ⟨m1, p1, p2⟩ := coolY_in (mg := mg) hG (show a < G by omega) (k := f_X12_cool_2 (nI G) mg n) (G - (a + 1)) (a + 1) fu m (by omega) (by have := fu_le; omega)
    obtain ⟨m', r1, r2⟩ := ih (a + 1) n m1 (by omega) (by omega)
    refine ⟨m', ?_, fun i hi => by rw [r2 i hi, p2 i hi]⟩
    rw [← r1, ← p1]
    simp (disch := omega) only [f_X12_cool_2, b_X12_cool_2, neg_nI, lit_nI, nI_add, pk_mul, pk_sub, nI_clamp, inB_nI, gd_true, bnd_def, nI_leI, nI_ltI, nI_eq, nI_mI, mI_nI, nle_T, nle_F, nlt_T, nlt_F, neq_T, neq_F, ↓reduceIte, Nat.add_zero, Nat.zero_add, Nat.mul_zero, Nat.reduceAdd, Nat.reduceMul, Nat.reduceSub, ob1_e, ob2_e, ob3_e, ob4_e, ob6_e]
theorem liveY_t (hG : G ≤ 6) (m : Nat → Int32) : ∃ m', f_X12_live (nI G) mg m = some m' ∧ (∀ i, 69 ≤ i → m' i = m i) := by
  obtain ⟨m1, p1, p2⟩ := coolY_t (mg := mg) hG G 0 fu m (by omega) (by have := fu_le; omega)
  have p1' : f_X12_cool (nI G) mg m = some m1 := p1
  obtain ⟨m3, q1, -, -, -, q5⟩ := live_in (G := G) (mg := mg) hG G 0 fu (upd m1 67 (mn (nI 999) (m1 67 + nI 2))) (by omega) (by have := fu_le; omega)
  refine ⟨m3, ?_, fun i hi => ?_⟩
  · simp (disch := omega) only [f_X12_live, b_X12_live_0, p1', neg_nI, lit_nI, nI_add, pk_mul, pk_sub, nI_clamp, inB_nI, gd_true, bnd_def, nI_leI, nI_ltI, nI_eq, nI_mI, mI_nI, nle_T, nle_F, nlt_T, nlt_F, neq_T, neq_F, ↓reduceIte, Nat.add_zero, Nat.zero_add, Nat.mul_zero, Nat.reduceAdd, Nat.reduceMul, Nat.reduceSub, ob1_e, ob2_e, ob3_e, ob4_e, ob6_e]
    exact q1
  · rw [q5 i (by omega) (by omega) (by omega), upd_n (by omega), p2 i (by omega)]
theorem allY_l (hG : G ≤ 6) : ∀ (j k n : Nat) (v : Bool), k + j = G → j < n → ∃ b, f_X12_doAllKnow_4 (nI G) m n (bz v) (nI k) = some (bz b) := by
  intro j
  induction j with
  | zero =>
    intro k n v hk h1
    obtain ⟨n, rfl⟩ : ∃ q, n = q + 1 := ⟨n - 1, by omega⟩
    exact ⟨v, by simp (disch := omega) only [f_X12_doAllKnow_4, b_X12_doAllKnow_4, isZ_bz, neg_nI, lit_nI, nI_add, pk_mul, pk_sub, nI_clamp, inB_nI, gd_true, bnd_def, nI_leI, nI_ltI, nI_eq, nI_mI, mI_nI, nle_T, nle_F, nlt_T, nlt_F, neq_T, neq_F, ↓reduceIte, Nat.add_zero, Nat.zero_add, Nat.mul_zero, Nat.reduceAdd, Nat.reduceMul, Nat.reduceSub, ob1_e, ob2_e, ob3_e, ob4_e, ob6_e]⟩
  | succ j ih =>
    intro k n v hk h1
    obtain ⟨n, rfl⟩ : ∃ q, n = q + 1 := ⟨n - 1, by omega⟩
    cases v with
    | false =>
      obtain ⟨b, e1⟩ := ih (k + 1) n false (by omega) (by omega)
      rw [bz_f] at e1
      exact ⟨b, by rw [bz_f]; simp (disch := omega) only [f_X12_doAllKnow_4, f_X12_doAllKnow, b_X12_doAllKnow_41, b_X12_doAllKnow_40, b_X12_doAllKnow_4, b_X12_doAllKnow_0, e1, neg_nI, lit_nI, nI_add, pk_mul, pk_sub, nI_clamp, inB_nI, gd_true, bnd_def, nI_leI, nI_ltI, nI_eq, nI_mI, mI_nI, nle_T, nle_F, nlt_T, nlt_F, neq_T, neq_F, ↓reduceIte, Nat.add_zero, Nat.zero_add, Nat.mul_zero, Nat.reduceAdd, Nat.reduceMul, Nat.reduceSub, ob1_e, ob2_e, ob3_e, ob4_e, ob6_e]⟩
    | true =>
      by_cases e : m (48 + k) = (nI 1 <<< (nI G &&& nI 31)) - nI 1
      · obtain ⟨b, e1⟩ := ih (k + 1) n true (by omega) (by omega)
        rw [bz_t] at e1
        exact ⟨b, by rw [bz_t]; simp (disch := omega) only [f_X12_doAllKnow_4, f_X12_doAllKnow, b_X12_doAllKnow_41, b_X12_doAllKnow_40, b_X12_doAllKnow_4, b_X12_doAllKnow_0, e, e1, neg_nI, lit_nI, nI_add, pk_mul, pk_sub, nI_clamp, inB_nI, gd_true, bnd_def, nI_leI, nI_ltI, nI_eq, nI_mI, mI_nI, nle_T, nle_F, nlt_T, nlt_F, neq_T, neq_F, ↓reduceIte, Nat.add_zero, Nat.zero_add, Nat.mul_zero, Nat.reduceAdd, Nat.reduceMul, Nat.reduceSub, ob1_e, ob2_e, ob3_e, ob4_e, ob6_e]⟩
      · obtain ⟨b, e1⟩ := ih (k + 1) n false (by omega) (by omega)
        rw [bz_f] at e1
        exact ⟨b, by rw [bz_t]; simp (disch := omega) only [f_X12_doAllKnow_4, f_X12_doAllKnow, b_X12_doAllKnow_41, b_X12_doAllKnow_40, b_X12_doAllKnow_4, b_X12_doAllKnow_0, e, e1, neg_nI, lit_nI, nI_add, pk_mul, pk_sub, nI_clamp, inB_nI, gd_true, bnd_def, nI_leI, nI_ltI, nI_eq, nI_mI, mI_nI, nle_T, nle_F, nlt_T, nlt_F, neq_T, neq_F, ↓reduceIte, Nat.add_zero, Nat.zero_add, Nat.mul_zero, Nat.reduceAdd, Nat.reduceMul, Nat.reduceSub, ob1_e, ob2_e, ob3_e, ob4_e, ob6_e]⟩
theorem allY_c (hG : G ≤ 6) (m : Nat → Int32) : ∃ b, f_X12_doAllKnow (nI G) m = some (bz b) := by
  obtain ⟨b, e⟩ := allY_l (m := m) hG G 0 fu true (by omega) (by have := fu_le; omega)
  exact ⟨b, e⟩
theorem mp83_l (hY : RiseY R mh mc mv mk mt ms mu) (hG : G ≤ 6) (hM : M ≤ 5) {mr ms0 mf : Int32} {wi : Nat → Int32} (hw : ∀ t, t < G → wi t = nI 9 ∨ ∃ o, o < G ∧ wi t = nI o) : ∀ (j k n : Nat) (lt st m : Nat → Int32), k + j = G → j < n → ∃ lt' st' m', f_X12_meetPairs_83 (nI G) (nI M) mh mc mv mk mt ms mu mg mm n mr ms0 mf lt st m wi (nI k) = some (mr, ms0, mf, lt', st', m', wi) ∧ (∀ i, 69 ≤ i → m' i = m i) := by
  intro j
  induction j with
  | zero =>
    intro k n lt st m hk h1
    obtain ⟨n, rfl⟩ : ∃ q, n = q + 1 := ⟨n - 1, by omega⟩
    exact ⟨lt, st, m, by simp (disch := omega) only [f_X12_meetPairs_83, b_X12_meetPairs_83, neg_nI, lit_nI, nI_add, pk_mul, pk_sub, nI_clamp, inB_nI, gd_true, bnd_def, nI_leI, nI_ltI, nI_eq, nI_mI, mI_nI, nle_T, nle_F, nlt_T, nlt_F, neq_T, neq_F, ↓reduceIte, Nat.add_zero, Nat.zero_add, Nat.mul_zero, Nat.reduceAdd, Nat.reduceMul, Nat.reduceSub, ob1_e, ob2_e, ob3_e, ob4_e, ob6_e], fun _ _ => rfl⟩
  | succ j ih =>
    intro k n lt st m hk h1
    obtain ⟨n, rfl⟩ : ∃ q, n = q + 1 := ⟨n - 1, by omega⟩
    rcases hw k (by omega) with e | ⟨o, ho, e⟩
    · obtain ⟨lt', st', m', r1, r2⟩ := ih (k + 1) n lt st m (by omega) (by omega)
      refine ⟨lt', st', m', ?_, r2⟩
      rw [← r1]
      simp (disch := omega) only [f_X12_meetPairs_83, b_X12_meetPairs_83, b_X12_meetPairs_113, e, neg_nI, lit_nI, nI_add, pk_mul, pk_sub, nI_clamp, inB_nI, gd_true, bnd_def, nI_leI, nI_ltI, nI_eq, nI_mI, mI_nI, nle_T, nle_F, nlt_T, nlt_F, neq_T, neq_F, ↓reduceIte, Nat.add_zero, Nat.zero_add, Nat.mul_zero, Nat.reduceAdd, Nat.reduceMul, Nat.reduceSub, ob1_e, ob2_e, ob3_e, ob4_e, ob6_e]
    · obtain ⟨lt1, st1, m1, p1, p2⟩ := meetY_t (mg := mg) (mm := mm) hY hM (g := k) (o := o) (by omega) (by omega) lt st m
      obtain ⟨lt', st', m', r1, r2⟩ := ih (k + 1) n lt1 st1 m1 (by omega) (by omega)
      refine ⟨lt', st', m', ?_, fun i hi => by rw [r2 i hi, p2 i (by omega)]⟩
      rw [← r1]
      simp (disch := omega) only [f_X12_meetPairs_83, b_X12_meetPairs_83, b_X12_meetPairs_113, e, p1, neg_nI, lit_nI, nI_add, pk_mul, pk_sub, nI_clamp, inB_nI, gd_true, bnd_def, nI_leI, nI_ltI, nI_eq, nI_mI, mI_nI, nle_T, nle_F, nlt_T, nlt_F, neq_T, neq_F, ↓reduceIte, Nat.add_zero, Nat.zero_add, Nat.mul_zero, Nat.reduceAdd, Nat.reduceMul, Nat.reduceSub, ob1_e, ob2_e, ob3_e, ob4_e, ob6_e]
theorem mp16_l (hY : RiseY R mh mc mv mk mt ms mu) (hG : G ≤ 6) (hM : M ≤ 5) (hh : ∀ g, g < G → mg (4 * g) = th g) {mr ms0 mf : Int32} {lt st m : Nat → Int32} : ∀ (k n r : Nat) (wi : Nat → Int32), k ≤ G → k < n → r < 1000000 → DV G th (cnt (thE th m) (nI 0) k) r → (∀ t, k ≤ t → t < G → wi t = nI 9 ∨ ∃ o, o < G ∧ wi t = nI o) → ∃ lt' st' m' wi', f_X12_meetPairs_16 (nI G) (nI M) mh mc mv mk mt ms mu mg mm n mr ms0 mf lt st m wi (nI r) (vm k) = some (mr, ms0, mf, lt', st', m', wi') ∧ (∀ i, 69 ≤ i → m' i = m i) := by
  intro k
  induction k with
  | zero =>
    intro n r wi hk h1 hr hV hw
    obtain ⟨n, rfl⟩ : ∃ q, n = q + 1 := ⟨n - 1, by omega⟩
    obtain ⟨lt', st', m', e1, e2⟩ := mp83_l (mg := mg) (mm := mm) hY hG hM (mr := mr) (ms0 := ms0) (mf := mf) (fun t ht => hw t (by omega) ht) G 0 fu lt st m (by omega) (by have := fu_le; omega)
    refine ⟨lt', st', m', wi, ?_, e2⟩
    rw [← e1]
    simp (disch := omega) only [f_X12_meetPairs_16, b_X12_meetPairs_16, vm_0, m1_lt, neg_nI, lit_nI, nI_add, pk_mul, pk_sub, nI_clamp, inB_nI, gd_true, bnd_def, nI_leI, nI_ltI, nI_eq, nI_mI, mI_nI, nle_T, nle_F, nlt_T, nlt_F, neq_T, neq_F, ↓reduceIte, Nat.add_zero, Nat.zero_add, Nat.mul_zero, Nat.reduceAdd, Nat.reduceMul, Nat.reduceSub, ob1_e, ob2_e, ob3_e, ob4_e, ob6_e]
  | succ k ih =>
    intro n r wi hk h1 hr hV hw
    obtain ⟨n, rfl⟩ : ∃ q, n = q + 1 := ⟨n - 1, by omega⟩
    have g1 := hh k (by omega)
    have er : rem (nI r) (nI 10) = nI (r % 10) := pk_rem (by omega) (by omega) (by omega)
    have ed : nI r / nI 10 = nI (r / 10) := pk_div (by omega) (by omega) (by omega)
    by_cases hE : th k = nI 0 ∧ m (54 + k) = mI 1
    · rw [cnt_y (thE_y hE.1 hE.2)] at hV
      obtain ⟨v1, v2⟩ := hV
      have e0 := hE.1
      have f0 := hE.2
      obtain ⟨lt', st', m', wi', e1, e2⟩ := ih n (r / 10) (upd wi k (nI (r % 10))) (by omega) (by omega) (by omega) v2 (fun t h2 h3 => by
        by_cases e : t = k
        · rw [upd_y e]
          rcases v1 with z | ⟨z, -⟩
          · rw [z]; exact Or.inl rfl
          · exact Or.inr ⟨r % 10, z, rfl⟩
        · rw [upd_n e]
          exact hw t (by omega) h3)
      refine ⟨lt', st', m', wi', ?_, e2⟩
      rw [← e1]
      simp (disch := omega) only [f_X12_meetPairs_16, b_X12_meetPairs_16, b_X12_meetPairs_41, b_X12_meetPairs_42, b_X12_meetPairs_61, b_X12_meetPairs_74, vm_s, vm_m, of_c, g1, e0, isFree_c, f0, er, ed, neg_nI, lit_nI, nI_add, pk_mul, pk_sub, nI_clamp, inB_nI, gd_true, bnd_def, nI_leI, nI_ltI, nI_eq, nI_mI, mI_nI, nle_T, nle_F, nlt_T, nlt_F, neq_T, neq_F, ↓reduceIte, Nat.add_zero, Nat.zero_add, Nat.mul_zero, Nat.reduceAdd, Nat.reduceMul, Nat.reduceSub, ob1_e, ob2_e, ob3_e, ob4_e, ob6_e]
    · rw [cnt_n (thE_n hE)] at hV
      obtain ⟨lt', st', m', wi', e1, e2⟩ := ih n r (upd wi k (nI 9)) (by omega) (by omega) hr hV (fun t h2 h3 => by
        by_cases e : t = k
        · rw [upd_y e]
          exact Or.inl rfl
        · rw [upd_n e]
          exact hw t (by omega) h3)
      refine ⟨lt', st', m', wi', ?_, e2⟩
      rw [← e1]
      by_cases e0 : th k = nI 0
      · have f0 : ¬ m (54 + k) = mI 1 := fun z => hE ⟨e0, z⟩
        simp (disch := omega) only [f_X12_meetPairs_16, b_X12_meetPairs_16, b_X12_meetPairs_41, b_X12_meetPairs_42, b_X12_meetPairs_61, b_X12_meetPairs_74, vm_s, vm_m, of_c, g1, e0, isFree_c, f0, neg_nI, lit_nI, nI_add, pk_mul, pk_sub, nI_clamp, inB_nI, gd_true, bnd_def, nI_leI, nI_ltI, nI_eq, nI_mI, mI_nI, nle_T, nle_F, nlt_T, nlt_F, neq_T, neq_F, ↓reduceIte, Nat.add_zero, Nat.zero_add, Nat.mul_zero, Nat.reduceAdd, Nat.reduceMul, Nat.reduceSub, ob1_e, ob2_e, ob3_e, ob4_e, ob6_e]
      · simp (disch := omega) only [f_X12_meetPairs_16, b_X12_meetPairs_16, b_X12_meetPairs_41, b_X12_meetPairs_42, b_X12_meetPairs_61, b_X12_meetPairs_74, vm_s, vm_m, of_c, g1, e0, neg_nI, lit_nI, nI_add, pk_mul, pk_sub, nI_clamp, inB_nI, gd_true, bnd_def, nI_leI, nI_ltI, nI_eq, nI_mI, mI_nI, nle_T, nle_F, nlt_T, nlt_F, neq_T, neq_F, ↓reduceIte, Nat.add_zero, Nat.zero_add, Nat.mul_zero, Nat.reduceAdd, Nat.reduceMul, Nat.reduceSub, ob1_e, ob2_e, ob3_e, ob4_e, ob6_e]
theorem mp_c (hX : RiseX R lh ll l0 l1 l2 l3) (hY : RiseY R mh mc mv mk mt ms mu) (hG : G ≤ 6) (hM : M ≤ 5) (hh : ∀ g, g < G → mg (4 * g) = th g) (ha : ∀ g, g < G → mg (4 * g + 3) = ta g) (h01 : ∀ g, g < G → th g = nI 0 ∨ th g = nI 1) (mr ms0 mf : Int32) (lt st m wi : Nat → Int32) : ∃ mr' ms0' lt' st' m' wi', f_X12_meetPairs (nI G) (nI M) mh mc mv mk mt ms mu mg mm mr ms0 mf lt st m wi = some (mr', ms0', nI 1, lt', st', m', wi') ∧ (∀ i, 69 ≤ i → m' i = m i) := by
  obtain ⟨-, -, bs', b', -, -, lt2, st2, -, e2, v1, v2⟩ := lay_c (lt := lt) (st := st) (un := lt) (ri := lt) (sz := nI 0) (bs := nI 0) (br := nI 0) (fd := nI 0) hX hY hG hh ha h01 (RN.refl G M m) lt st mr ms0 mf
  obtain ⟨lt', st', m', wi', e1, e3⟩ := mp16_l (mg := mg) (mm := mm) hY hG hM hh (mr := nI b') (ms0 := bs') (mf := nI 1) (lt := lt2) (st := st2) (m := m) G fu b' wi (by omega) (by have := fu_le; omega) v2 v1 (fun t h1 h2 => by omega)
  refine ⟨nI b', bs', lt', st', m', wi', ?_, e3⟩
  rw [← e1]
  simp (disch := omega) only [f_X12_meetPairs, b_X12_meetPairs_0, e2, ob5_e, bnd_def, lit_nI, vm_1]
theorem ky71_l {v1 : Int32} {as : Nat → Int32} {mr ms0 mf : Int32} {lt st wi : Nat → Int32} {b : Bool} : ∀ (j k n : Nat) (m : Nat → Int32), k + j = 69 → j < n → ∃ r m', f_X12_allKnow_71 (nI G) (nI M) mh mc mv mk mt ms mu mg mm n mr ms0 mf lt st m wi as v1 (bz b) (nI k) = some (r, mr, ms0, mf, lt, st, m', wi, as) ∧ (∀ i, k ≤ i → i < 69 → m' i = as i) ∧ (∀ i, i < k ∨ 69 ≤ i → m' i = m i) := by
  intro j
  induction j with
  | zero =>
    intro k n m hk h1
    obtain ⟨n, rfl⟩ : ∃ q, n = q + 1 := ⟨n - 1, by omega⟩
    cases b with
    | true => exact ⟨v1, m, by rw [bz_t]; simp (disch := omega) only [f_X12_allKnow_71, b_X12_allKnow_71, neg_nI, lit_nI, nI_add, pk_mul, pk_sub, nI_clamp, inB_nI, gd_true, bnd_def, nI_leI, nI_ltI, nI_eq, nI_mI, mI_nI, nle_T, nle_F, nlt_T, nlt_F, neq_T, neq_F, ↓reduceIte, Nat.add_zero, Nat.zero_add, Nat.mul_zero, Nat.reduceAdd, Nat.reduceMul, Nat.reduceSub, ob1_e, ob2_e, ob3_e, ob4_e, ob6_e], fun i h2 h3 => by omega, fun _ _ => rfl⟩
    | false => exact ⟨mI 1, m, by rw [bz_f]; simp (disch := omega) only [f_X12_allKnow_71, b_X12_allKnow_71, neg_nI, lit_nI, nI_add, pk_mul, pk_sub, nI_clamp, inB_nI, gd_true, bnd_def, nI_leI, nI_ltI, nI_eq, nI_mI, mI_nI, nle_T, nle_F, nlt_T, nlt_F, neq_T, neq_F, ↓reduceIte, Nat.add_zero, Nat.zero_add, Nat.mul_zero, Nat.reduceAdd, Nat.reduceMul, Nat.reduceSub, ob1_e, ob2_e, ob3_e, ob4_e, ob6_e], fun i h2 h3 => by omega, fun _ _ => rfl⟩
  | succ j ih =>
    intro k n m hk h1
    obtain ⟨n, rfl⟩ : ∃ q, n = q + 1 := ⟨n - 1, by omega⟩
    obtain ⟨r, m', e1, e2, e3⟩ := ih (k + 1) n (upd m k (as k)) (by omega) (by omega)
    refine ⟨r, m', ?_, fun i h2 h3 => ?_, fun i hi => ?_⟩
    · rw [← e1]
      simp (disch := omega) only [f_X12_allKnow_71, b_X12_allKnow_71, neg_nI, lit_nI, nI_add, pk_mul, pk_sub, nI_clamp, inB_nI, gd_true, bnd_def, nI_leI, nI_ltI, nI_eq, nI_mI, mI_nI, nle_T, nle_F, nlt_T, nlt_F, neq_T, neq_F, ↓reduceIte, Nat.add_zero, Nat.zero_add, Nat.mul_zero, Nat.reduceAdd, Nat.reduceMul, Nat.reduceSub, ob1_e, ob2_e, ob3_e, ob4_e, ob6_e]
    · by_cases e : i = k
      · rw [e, e3 k (by omega), upd_y rfl]
      · exact e2 i (by omega) h3
    · rw [e3 i (by omega), upd_n (by omega)]
theorem ky37_l (hX : RiseX R lh ll l0 l1 l2 l3) (hY : RiseY R mh mc mv mk mt ms mu) (hG : G ≤ 6) (hM : M ≤ 5) (hh : ∀ g, g < G → mg (4 * g) = th g) (ha : ∀ g, g < G → mg (4 * g + 3) = ta g) (h01 : ∀ g, g < G → th g = nI 0 ∨ th g = nI 1) {as : Nat → Int32} : ∀ (j k n : Nat) (mr ms0 mf : Int32) (lt st m wi : Nat → Int32), k + j = 30 → j < n → isZ mf = true → ∃ r mr' ms0' mf' lt' st' m' wi', f_X12_allKnow_37 (nI G) (nI M) mh mc mv mk mt ms mu mg mm n mr ms0 mf lt st m wi as (nI k) = some (r, mr', ms0', mf', lt', st', m', wi', as) ∧ (∀ i, i < 69 → m' i = as i) ∧ (∀ i, 69 ≤ i → m' i = m i) ∧ isZ mf' = true := by
  intro j
  induction j with
  | zero =>
    intro k n mr ms0 mf lt st m wi hk h1 hz
    obtain ⟨n, rfl⟩ : ∃ q, n = q + 1 := ⟨n - 1, by omega⟩
    obtain ⟨b, hb⟩ := allY_c hG m
    obtain ⟨r, m', e1, e2, e3⟩ := ky71_l (G := G) (M := M) (mh := mh) (mc := mc) (mv := mv) (mk := mk) (mt := mt) (ms := ms) (mu := mu) (mg := mg) (mm := mm) (v1 := nI k) (as := as) (mr := mr) (ms0 := ms0) (mf := mf) (lt := lt) (st := st) (wi := wi) (b := b) 69 0 fu m (by omega) (by have := fu_le; omega)
    refine ⟨r, mr, ms0, mf, lt, st, m', wi, ?_, fun i hi => e2 i (by omega) hi, fun i hi => e3 i (by omega), hz⟩
    rw [← e1]
    simp (disch := omega) only [f_X12_allKnow_37, b_X12_allKnow_37, b_X12_allKnow_64, hb, neg_nI, lit_nI, nI_add, pk_mul, pk_sub, nI_clamp, inB_nI, gd_true, bnd_def, nI_leI, nI_ltI, nI_eq, nI_mI, mI_nI, nle_T, nle_F, nlt_T, nlt_F, neq_T, neq_F, ↓reduceIte, Nat.add_zero, Nat.zero_add, Nat.mul_zero, Nat.reduceAdd, Nat.reduceMul, Nat.reduceSub, ob1_e, ob2_e, ob3_e, ob4_e, ob6_e]
  | succ j ih =>
    intro k n mr ms0 mf lt st m wi hk h1 hz
    obtain ⟨n, rfl⟩ : ∃ q, n = q + 1 := ⟨n - 1, by omega⟩
    obtain ⟨b, hb⟩ := allY_c hG m
    cases b with
    | true =>
      obtain ⟨r, m', e1, e2, e3⟩ := ky71_l (G := G) (M := M) (mh := mh) (mc := mc) (mv := mv) (mk := mk) (mt := mt) (ms := ms) (mu := mu) (mg := mg) (mm := mm) (v1 := nI k) (as := as) (mr := mr) (ms0 := ms0) (mf := mf) (lt := lt) (st := st) (wi := wi) (b := true) 69 0 fu m (by omega) (by have := fu_le; omega)
      refine ⟨r, mr, ms0, mf, lt, st, m', wi, ?_, fun i hi => e2 i (by omega) hi, fun i hi => e3 i (by omega), hz⟩
      rw [bz_t] at e1 hb
      rw [← e1]
      simp (disch := omega) only [f_X12_allKnow_37, b_X12_allKnow_37, b_X12_allKnow_64, hb, neg_nI, lit_nI, nI_add, pk_mul, pk_sub, nI_clamp, inB_nI, gd_true, bnd_def, nI_leI, nI_ltI, nI_eq, nI_mI, mI_nI, nle_T, nle_F, nlt_T, nlt_F, neq_T, neq_F, ↓reduceIte, Nat.add_zero, Nat.zero_add, Nat.mul_zero, Nat.reduceAdd, Nat.reduceMul, Nat.reduceSub, ob1_e, ob2_e, ob3_e, ob4_e, ob6_e]
    | false =>
      obtain ⟨mr1, ms1, lt1, st1, m1, wi1, p1, p2⟩ := mp_c (mm := mm) (M := M) hX hY hG hM hh ha h01 mr ms0 mf lt st m wi
      obtain ⟨m2, p3, p4⟩ := liveY_t (mg := mg) hG m1
      obtain ⟨r, mr', ms0', mf', lt', st', m', wi', e1, e2, e3, e4⟩ := ih (k + 1) n mr1 ms1 (nI 1) lt1 st1 m2 wi1 (by omega) (by omega) rfl
      refine ⟨r, mr', ms0', mf', lt', st', m', wi', ?_, e2, fun i hi => by rw [e3 i hi, p4 i hi, p2 i hi], e4⟩
      rw [bz_f] at hb
      rw [← e1]
      simp (disch := omega) only [f_X12_allKnow_37, b_X12_allKnow_37, b_X12_allKnow_64, hb, p1, ob7_e, p3, neg_nI, lit_nI, nI_add, pk_mul, pk_sub, nI_clamp, inB_nI, gd_true, bnd_def, nI_leI, nI_ltI, nI_eq, nI_mI, mI_nI, nle_T, nle_F, nlt_T, nlt_F, neq_T, neq_F, ↓reduceIte, Nat.add_zero, Nat.zero_add, Nat.mul_zero, Nat.reduceAdd, Nat.reduceMul, Nat.reduceSub, ob1_e, ob2_e, ob3_e, ob4_e, ob6_e]
theorem ky11_l {mr ms0 mf : Int32} {lt st m wi : Nat → Int32} : ∀ (j k n : Nat) (as : Nat → Int32), k + j = 69 → j < n → ∃ as', f_X12_allKnow_11 (nI G) (nI M) mh mc mv mk mt ms mu mg mm n mr ms0 mf lt st m wi as (nI k) = f_X12_allKnow_37 (nI G) (nI M) mh mc mv mk mt ms mu mg mm fu mr ms0 mf lt st m wi as' (nI 0) ∧ (∀ i, k ≤ i → i < 69 → as' i = m i) ∧ (∀ i, i < k → as' i = as i) := by
  intro j
  induction j with
  | zero =>
    intro k n as hk h1
    obtain ⟨n, rfl⟩ : ∃ q, n = q + 1 := ⟨n - 1, by omega⟩
    exact ⟨as, by simp (disch := omega) only [f_X12_allKnow_11, b_X12_allKnow_11, neg_nI, lit_nI, nI_add, pk_mul, pk_sub, nI_clamp, inB_nI, gd_true, bnd_def, nI_leI, nI_ltI, nI_eq, nI_mI, mI_nI, nle_T, nle_F, nlt_T, nlt_F, neq_T, neq_F, ↓reduceIte, Nat.add_zero, Nat.zero_add, Nat.mul_zero, Nat.reduceAdd, Nat.reduceMul, Nat.reduceSub, ob1_e, ob2_e, ob3_e, ob4_e, ob6_e], fun i h2 h3 => by omega, fun _ _ => rfl⟩
  | succ j ih =>
    intro k n as hk h1
    obtain ⟨n, rfl⟩ : ∃ q, n = q + 1 := ⟨n - 1, by omega⟩
    obtain ⟨as', e1, e2, e3⟩ := ih (k + 1) n (upd as k (m k)) (by omega) (by omega)
    refine ⟨as', ?_, fun i h2 h3 => ?_, fun i hi => ?_⟩
    · rw [← e1]
      simp (disch := omega) only [f_X12_allKnow_11, b_X12_allKnow_11, neg_nI, lit_nI, nI_add, pk_mul, pk_sub, nI_clamp, inB_nI, gd_true, bnd_def, nI_leI, nI_ltI, nI_eq, nI_mI, mI_nI, nle_T, nle_F, nlt_T, nlt_F, neq_T, neq_F, ↓reduceIte, Nat.add_zero, Nat.zero_add, Nat.mul_zero, Nat.reduceAdd, Nat.reduceMul, Nat.reduceSub, ob1_e, ob2_e, ob3_e, ob4_e, ob6_e]
    · by_cases e : i = k
      · rw [e, e3 k (by omega), upd_y rfl]
      · exact e2 i (by omega) h3
    · rw [e3 i (by omega), upd_n (by omega)]
theorem s_knowY (hX : RiseX R lh ll l0 l1 l2 l3) (hY : RiseY R mh mc mv mk mt ms mu) (hG : G ≤ 6) (hM : M ≤ 5) (hh : ∀ g, g < G → mg (4 * g) = th g) (ha : ∀ g, g < G → mg (4 * g + 3) = ta g) (h01 : ∀ g, g < G → th g = nI 0 ∨ th g = nI 1) (mr ms0 mf : Int32) (lt st m wi as : Nat → Int32) (hz : isZ mf = true) : ∃ r mr' ms0' mf' lt' st' m' wi' as', f_X12_allKnow (nI G) (nI M) mh mc mv mk mt ms mu mg mm mr ms0 mf lt st m wi as = some (r, mr', ms0', mf', lt', st', m', wi', as') ∧ (∀ i, i < 250 → m' i = m i) ∧ isZ mf' = true := by
  by_cases g0 : G = 0
  · refine ⟨mI 1, mr, ms0, mf, lt, st, m, wi, as, ?_, fun _ _ => rfl, hz⟩
    simp (disch := omega) only [f_X12_allKnow, b_X12_allKnow_0, neg_nI, lit_nI, nI_add, pk_mul, pk_sub, nI_clamp, inB_nI, gd_true, bnd_def, nI_leI, nI_ltI, nI_eq, nI_mI, mI_nI, nle_T, nle_F, nlt_T, nlt_F, neq_T, neq_F, ↓reduceIte, Nat.add_zero, Nat.zero_add, Nat.mul_zero, Nat.reduceAdd, Nat.reduceMul, Nat.reduceSub, ob1_e, ob2_e, ob3_e, ob4_e, ob6_e]
  · obtain ⟨as', e1, e2, -⟩ := ky11_l (G := G) (M := M) (mh := mh) (mc := mc) (mv := mv) (mk := mk) (mt := mt) (ms := ms) (mu := mu) (mg := mg) (mm := mm) (mr := mr) (ms0 := ms0) (mf := mf) (lt := lt) (st := st) (m := m) (wi := wi) 69 0 fu as (by omega) (by have := fu_le; omega)
    obtain ⟨r, mr', ms0', mf', lt', st', m', wi', x1, x2, x3, x4⟩ := ky37_l (mm := mm) (M := M) hX hY hG hM hh ha h01 (as := as') 30 0 fu mr ms0 mf lt st m wi (by omega) (by have := fu_le; omega) hz
    refine ⟨r, mr', ms0', mf', lt', st', m', wi', as', ?_, fun i hi => ?_, x4⟩
    · rw [← x1, ← e1]
      simp (disch := omega) only [f_X12_allKnow, b_X12_allKnow_0, neg_nI, lit_nI, nI_add, pk_mul, pk_sub, nI_clamp, inB_nI, gd_true, bnd_def, nI_leI, nI_ltI, nI_eq, nI_mI, mI_nI, nle_T, nle_F, nlt_T, nlt_F, neq_T, neq_F, ↓reduceIte, Nat.add_zero, Nat.zero_add, Nat.mul_zero, Nat.reduceAdd, Nat.reduceMul, Nat.reduceSub, ob1_e, ob2_e, ob3_e, ob4_e, ob6_e]
    · by_cases h : i < 69
      · rw [x2 i h, e2 i (by omega) h]
      · exact x3 i (by omega)
end KY
end
section
/-! the tape: bytes of words -/
def byt (w : Int32) (i : Nat) : Int32 := (w >>> (nI (24 - 8 * i) &&& 31)) &&& 255
theorem b_255 : ∀ i, i < 32 → bt (255 : Int32) i = decide (i < 8) := by decide +kernel
theorem u_l : ∀ n, n < 32 → ((nI n).toUInt32 &&& Int32.toUInt32 31).toNat = n := by decide +kernel
theorem b_ushr (n : Nat) (hn : n < 32) (x : Int32) {i : Nat} : bt (ushr x (nI n)) i = bt x (n + i) := by
  unfold bt
  show (x.toBitVec >>> (((nI n).toUInt32 &&& Int32.toUInt32 31).toBitVec % 32)).getLsbD i = _
  rw [BitVec.ushiftRight_eq']
  have h : (((nI n).toUInt32 &&& Int32.toUInt32 31).toBitVec % 32#32).toNat = n := by
    rw [BitVec.toNat_umod]
    show ((nI n).toUInt32 &&& Int32.toUInt32 31).toNat % 32 = n
    rw [u_l n hn]
    omega
  rw [show ((32 : BitVec 32)) = 32#32 from rfl, h, BitVec.getLsbD_ushiftRight]
theorem byt_u {i : Nat} (hi : i < 4) (w : Int32) : ushr w (nI (24 - 8 * i)) &&& (255 : Int32) = byt w i := by
  apply b_ext
  intro j hj
  unfold byt
  rw [b_and, b_and, b_255 j hj, b_ushr _ (by omega), b_sshr _ (by omega) w hj]
  by_cases h : j < 8
  · rw [if_pos (by omega)]
  · rw [decide_eq_false h, Bool.and_false, Bool.and_false]
theorem and255 (x : Int32) : ∃ j : Nat, j ≤ 255 ∧ x &&& (255 : Int32) = nI j := by
  have h1 : (x &&& (255 : Int32)).toBitVec.toNat ≤ 255 := by
    rw [Int32.toBitVec_and, BitVec.toNat_and]
    exact Nat.and_le_right
  rcases rng (x &&& (255 : Int32)) 255 (by omega) with h | h | ⟨h0, h, h2⟩
  · exact h
  · exfalso
    have h3 : bt (x &&& (255 : Int32)) 31 = false := by rw [b_and, b_255 31 (by omega)]; simp
    rw [lt32] at h
    have h4 : (nI 0).toInt = 0 := by decide
    rw [h4] at h
    have h5 : (x &&& (255 : Int32)).toInt = ((x &&& (255 : Int32)).toBitVec.toNat : Int) := by
      show (x &&& (255 : Int32)).toBitVec.toInt = _
      rw [BitVec.toInt_eq_toNat_of_lt (by omega)]
    omega
  · exfalso
    rw [lt32] at h
    have h4 : (nI 255).toInt = 255 := by decide
    rw [h4] at h
    have h5 : (x &&& (255 : Int32)).toInt = ((x &&& (255 : Int32)).toBitVec.toNat : Int) := by
      show (x &&& (255 : Int32)).toBitVec.toInt = _
      rw [BitVec.toInt_eq_toNat_of_lt (by omega)]
    omega
theorem byt_r (w : Int32) (i : Nat) : ∃ j : Nat, j ≤ 255 ∧ byt w i = nI j := and255 _
/-- one byte onto the tape -/
def p1 (b : Int32) (s : Nat × (Nat → Int32)) : Nat × (Nat → Int32) := if b = nI 0 then s else (s.1 + 1, upd s.2 s.1 b)
def pt (w : Int32) (s : Nat × (Nat → Int32)) : Nat × (Nat → Int32) := p1 (byt w 3) (p1 (byt w 2) (p1 (byt w 1) (p1 (byt w 0) s)))
def z1 (b : Int32) : Nat := if b = nI 0 then 0 else 1
def nz (w : Int32) : Nat := z1 (byt w 0) + z1 (byt w 1) + z1 (byt w 2) + z1 (byt w 3)
theorem z1_le (b : Int32) : z1 b ≤ 1 := by unfold z1; split <;> omega
theorem nz_le (w : Int32) : nz w ≤ 4 := by
  have h0 := z1_le (byt w 0); have h1 := z1_le (byt w 1); have h2 := z1_le (byt w 2); have h3 := z1_le (byt w 3)
  unfold nz; omega
theorem p1_1 (b : Int32) (s : Nat × (Nat → Int32)) : (p1 b s).1 = s.1 + z1 b := by
  unfold p1 z1; split <;> rfl
theorem pt_1 (w : Int32) (s : Nat × (Nat → Int32)) : (pt w s).1 = s.1 + nz w := by
  unfold pt nz; rw [p1_1, p1_1, p1_1, p1_1]; omega
/-- the tape of both -/
def RT (n : Nat) (t u : Nat → Int32) : Prop := ∀ i, i < n → t i = u i ∧ ∃ j, 0 < j ∧ j ≤ 255 ∧ t i = nI j
theorem p1_R {b : Int32} (hb : ∃ j : Nat, j ≤ 255 ∧ b = nI j) {n : Nat} {t u : Nat → Int32} (h : RT n t u) : (p1 b (n, t)).1 = (p1 b (n, u)).1 ∧ RT (p1 b (n, t)).1 (p1 b (n, t)).2 (p1 b (n, u)).2 := by
  unfold p1
  by_cases e : b = nI 0
  · rw [if_pos e, if_pos e]; exact ⟨rfl, h⟩
  · rw [if_neg e, if_neg e]
    refine ⟨rfl, fun i hi => ?_⟩
    show upd t n b i = upd u n b i ∧ _
    by_cases q : i = n
    · rw [upd_y q, upd_y q]
      obtain ⟨j, hj, ej⟩ := hb
      refine ⟨rfl, j, ?_, hj, ?_⟩
      · rcases Nat.eq_zero_or_pos j with z | z
        · exact absurd (by rw [ej, z]) e
        · exact z
      · show upd t n b i = nI j
        rw [upd_y q, ej]
    · have hi2 : i < n + 1 := hi
      obtain ⟨h1, j, h2, h3, h4⟩ := h i (by omega)
      rw [upd_n q, upd_n q]
      exact ⟨h1, j, h2, h3, by show upd t n b i = nI j; rw [upd_n q, h4]⟩
theorem pt_R {w : Int32} {n : Nat} {t u : Nat → Int32} (h : RT n t u) : (pt w (n, t)).1 = (pt w (n, u)).1 ∧ RT (pt w (n, t)).1 (pt w (n, t)).2 (pt w (n, u)).2 := by
  unfold pt
  obtain ⟨e0, r0⟩ := p1_R (byt_r w 0) h
  generalize p1 (byt w 0) (n, t) = a0 at e0 r0 ⊢
  generalize p1 (byt w 0) (n, u) = b0 at e0 r0 ⊢
  obtain ⟨a0, ta⟩ := a0
  obtain ⟨b0, tb⟩ := b0
  obtain rfl : a0 = b0 := e0
  obtain ⟨e0, r0⟩ := p1_R (byt_r w 1) r0
  simp only at e0 r0 ⊢
  generalize p1 (byt w 1) (a0, ta) = a1 at e0 r0 ⊢
  generalize p1 (byt w 1) (a0, tb) = b1 at e0 r0 ⊢
  obtain ⟨a1, ta⟩ := a1
  obtain ⟨b1, tb⟩ := b1
  obtain rfl : a1 = b1 := e0
  obtain ⟨e0, r0⟩ := p1_R (byt_r w 2) r0
  simp only at e0 r0 ⊢
  generalize p1 (byt w 2) (a1, ta) = a2 at e0 r0 ⊢
  generalize p1 (byt w 2) (a1, tb) = b2 at e0 r0 ⊢
  obtain ⟨a2, ta⟩ := a2
  obtain ⟨b2, tb⟩ := b2
  obtain rfl : a2 = b2 := e0
  exact p1_R (byt_r w 3) r0
/-! the class -/

theorem bO_0 (n : Nat) (w : Int32) (s : Nat) (hs : s ≤ 100) : f_X10_bytesOf_5 (n + 1) w (nI s) (nI 24) = f_X10_bytesOf_5 n w (nI (s + z1 (byt w 0))) (nI 16) := by
  have hb := byt_u (i := 0) (by omega) w
  rw [show 24 - 8 * 0 = 24 from rfl] at hb
  have hd : nI 24 + (-8 : Int32) = nI 16 := by decide
  have hn : ¬ (nI 24 < (0 : Int32)) := by decide
  rw [show ∀ a b, f_X10_bytesOf_5 (n + 1) w a b = b_X10_bytesOf_5 (f_X10_bytesOf_5 n) w a b from fun _ _ => rfl]
  unfold b_X10_bytesOf_5 b_X10_bytesOf_22
  rw [if_neg hn, hb, hd]
  unfold z1
  simp only [bnd_def, lit_nI]
  by_cases e : byt w 0 = nI 0
  · rw [if_pos e, if_pos e, Nat.add_zero]
  · rw [if_neg e, if_neg e, nI_add]
theorem pU_0 (n : Nat) (w : Int32) (s : Nat × (Nat → Int32)) (hs : (p1 (byt w 0) s).1 ≤ 240) : f_X10_put_3 (n + 1) (nI s.1) s.2 w (nI 24) = f_X10_put_3 n (nI (p1 (byt w 0) s).1) (p1 (byt w 0) s).2 w (nI 16) := by
  have hb := byt_u (i := 0) (by omega) w
  rw [show 24 - 8 * 0 = 24 from rfl] at hb
  have hd : nI 24 + (-8 : Int32) = nI 16 := by decide
  have hn : ¬ (nI 24 < (0 : Int32)) := by decide
  rw [show ∀ a b c, f_X10_put_3 (n + 1) a b w c = b_X10_put_3 (f_X10_put_3 n) a b w c from fun _ _ _ => rfl]
  unfold b_X10_put_3 b_X10_put_49
  rw [if_neg hn, hb, hd]
  simp only [bnd_def, lit_nI]
  unfold p1 at hs ⊢
  by_cases e : byt w 0 = nI 0
  · rw [if_pos e, if_pos e]
  · rw [if_neg e] at hs
    rw [if_neg e, if_neg e]
    replace hs : s.1 + 1 ≤ 240 := hs
    simp (disch := omega) only [neg_nI, lit_nI, nI_add, pk_mul, pk_sub, nI_clamp, inB_nI, gd_true, bnd_def, nI_leI, nI_ltI, nI_eq, nI_mI, mI_nI, nle_T, nle_F, nlt_T, nlt_F, neq_T, neq_F, ↓reduceIte, Nat.add_zero, Nat.zero_add, Nat.mul_zero, Nat.reduceAdd, Nat.reduceMul, Nat.reduceSub, ob1_e, ob2_e, ob3_e, ob4_e, ob6_e]

theorem bO_1 (n : Nat) (w : Int32) (s : Nat) (hs : s ≤ 100) : f_X10_bytesOf_5 (n + 1) w (nI s) (nI 16) = f_X10_bytesOf_5 n w (nI (s + z1 (byt w 1))) (nI 8) := by
  have hb := byt_u (i := 1) (by omega) w
  rw [show 24 - 8 * 1 = 16 from rfl] at hb
  have hd : nI 16 + (-8 : Int32) = nI 8 := by decide
  have hn : ¬ (nI 16 < (0 : Int32)) := by decide
  rw [show ∀ a b, f_X10_bytesOf_5 (n + 1) w a b = b_X10_bytesOf_5 (f_X10_bytesOf_5 n) w a b from fun _ _ => rfl]
  unfold b_X10_bytesOf_5 b_X10_bytesOf_22
  rw [if_neg hn, hb, hd]
  unfold z1
  simp only [bnd_def, lit_nI]
  by_cases e : byt w 1 = nI 0
  · rw [if_pos e, if_pos e, Nat.add_zero]
  · rw [if_neg e, if_neg e, nI_add]
theorem pU_1 (n : Nat) (w : Int32) (s : Nat × (Nat → Int32)) (hs : (p1 (byt w 1) s).1 ≤ 240) : f_X10_put_3 (n + 1) (nI s.1) s.2 w (nI 16) = f_X10_put_3 n (nI (p1 (byt w 1) s).1) (p1 (byt w 1) s).2 w (nI 8) := by
  have hb := byt_u (i := 1) (by omega) w
  rw [show 24 - 8 * 1 = 16 from rfl] at hb
  have hd : nI 16 + (-8 : Int32) = nI 8 := by decide
  have hn : ¬ (nI 16 < (0 : Int32)) := by decide
  rw [show ∀ a b c, f_X10_put_3 (n + 1) a b w c = b_X10_put_3 (f_X10_put_3 n) a b w c from fun _ _ _ => rfl]
  unfold b_X10_put_3 b_X10_put_49
  rw [if_neg hn, hb, hd]
  simp only [bnd_def, lit_nI]
  unfold p1 at hs ⊢
  by_cases e : byt w 1 = nI 0
  · rw [if_pos e, if_pos e]
  · rw [if_neg e] at hs
    rw [if_neg e, if_neg e]
    replace hs : s.1 + 1 ≤ 240 := hs
    simp (disch := omega) only [neg_nI, lit_nI, nI_add, pk_mul, pk_sub, nI_clamp, inB_nI, gd_true, bnd_def, nI_leI, nI_ltI, nI_eq, nI_mI, mI_nI, nle_T, nle_F, nlt_T, nlt_F, neq_T, neq_F, ↓reduceIte, Nat.add_zero, Nat.zero_add, Nat.mul_zero, Nat.reduceAdd, Nat.reduceMul, Nat.reduceSub, ob1_e, ob2_e, ob3_e, ob4_e, ob6_e]

theorem bO_2 (n : Nat) (w : Int32) (s : Nat) (hs : s ≤ 100) : f_X10_bytesOf_5 (n + 1) w (nI s) (nI 8) = f_X10_bytesOf_5 n w (nI (s + z1 (byt w 2))) (nI 0) := by
  have hb := byt_u (i := 2) (by omega) w
  rw [show 24 - 8 * 2 = 8 from rfl] at hb
  have hd : nI 8 + (-8 : Int32) = nI 0 := by decide
  have hn : ¬ (nI 8 < (0 : Int32)) := by decide
  rw [show ∀ a b, f_X10_bytesOf_5 (n + 1) w a b = b_X10_bytesOf_5 (f_X10_bytesOf_5 n) w a b from fun _ _ => rfl]
  unfold b_X10_bytesOf_5 b_X10_bytesOf_22
  rw [if_neg hn, hb, hd]
  unfold z1
  simp only [bnd_def, lit_nI]
  by_cases e : byt w 2 = nI 0
  · rw [if_pos e, if_pos e, Nat.add_zero]
  · rw [if_neg e, if_neg e, nI_add]
theorem pU_2 (n : Nat) (w : Int32) (s : Nat × (Nat → Int32)) (hs : (p1 (byt w 2) s).1 ≤ 240) : f_X10_put_3 (n + 1) (nI s.1) s.2 w (nI 8) = f_X10_put_3 n (nI (p1 (byt w 2) s).1) (p1 (byt w 2) s).2 w (nI 0) := by
  have hb := byt_u (i := 2) (by omega) w
  rw [show 24 - 8 * 2 = 8 from rfl] at hb
  have hd : nI 8 + (-8 : Int32) = nI 0 := by decide
  have hn : ¬ (nI 8 < (0 : Int32)) := by decide
  rw [show ∀ a b c, f_X10_put_3 (n + 1) a b w c = b_X10_put_3 (f_X10_put_3 n) a b w c from fun _ _ _ => rfl]
  unfold b_X10_put_3 b_X10_put_49
  rw [if_neg hn, hb, hd]
  simp only [bnd_def, lit_nI]
  unfold p1 at hs ⊢
  by_cases e : byt w 2 = nI 0
  · rw [if_pos e, if_pos e]
  · rw [if_neg e] at hs
    rw [if_neg e, if_neg e]
    replace hs : s.1 + 1 ≤ 240 := hs
    simp (disch := omega) only [neg_nI, lit_nI, nI_add, pk_mul, pk_sub, nI_clamp, inB_nI, gd_true, bnd_def, nI_leI, nI_ltI, nI_eq, nI_mI, mI_nI, nle_T, nle_F, nlt_T, nlt_F, neq_T, neq_F, ↓reduceIte, Nat.add_zero, Nat.zero_add, Nat.mul_zero, Nat.reduceAdd, Nat.reduceMul, Nat.reduceSub, ob1_e, ob2_e, ob3_e, ob4_e, ob6_e]

theorem bO_3 (n : Nat) (w : Int32) (s : Nat) (hs : s ≤ 100) : f_X10_bytesOf_5 (n + 1) w (nI s) (nI 0) = f_X10_bytesOf_5 n w (nI (s + z1 (byt w 3))) (mI 8) := by
  have hb := byt_u (i := 3) (by omega) w
  rw [show 24 - 8 * 3 = 0 from rfl] at hb
  have hd : nI 0 + (-8 : Int32) = mI 8 := by decide
  have hn : ¬ (nI 0 < (0 : Int32)) := by decide
  rw [show ∀ a b, f_X10_bytesOf_5 (n + 1) w a b = b_X10_bytesOf_5 (f_X10_bytesOf_5 n) w a b from fun _ _ => rfl]
  unfold b_X10_bytesOf_5 b_X10_bytesOf_22
  rw [if_neg hn, hb, hd]
  unfold z1
  simp only [bnd_def, lit_nI]
  by_cases e : byt w 3 = nI 0
  · rw [if_pos e, if_pos e, Nat.add_zero]
  · rw [if_neg e, if_neg e, nI_add]
theorem pU_3 (n : Nat) (w : Int32) (s : Nat × (Nat → Int32)) (hs : (p1 (byt w 3) s).1 ≤ 240) : f_X10_put_3 (n + 1) (nI s.1) s.2 w (nI 0) = f_X10_put_3 n (nI (p1 (byt w 3) s).1) (p1 (byt w 3) s).2 w (mI 8) := by
  have hb := byt_u (i := 3) (by omega) w
  rw [show 24 - 8 * 3 = 0 from rfl] at hb
  have hd : nI 0 + (-8 : Int32) = mI 8 := by decide
  have hn : ¬ (nI 0 < (0 : Int32)) := by decide
  rw [show ∀ a b c, f_X10_put_3 (n + 1) a b w c = b_X10_put_3 (f_X10_put_3 n) a b w c from fun _ _ _ => rfl]
  unfold b_X10_put_3 b_X10_put_49
  rw [if_neg hn, hb, hd]
  simp only [bnd_def, lit_nI]
  unfold p1 at hs ⊢
  by_cases e : byt w 3 = nI 0
  · rw [if_pos e, if_pos e]
  · rw [if_neg e] at hs
    rw [if_neg e, if_neg e]
    replace hs : s.1 + 1 ≤ 240 := hs
    simp (disch := omega) only [neg_nI, lit_nI, nI_add, pk_mul, pk_sub, nI_clamp, inB_nI, gd_true, bnd_def, nI_leI, nI_ltI, nI_eq, nI_mI, mI_nI, nle_T, nle_F, nlt_T, nlt_F, neq_T, neq_F, ↓reduceIte, Nat.add_zero, Nat.zero_add, Nat.mul_zero, Nat.reduceAdd, Nat.reduceMul, Nat.reduceSub, ob1_e, ob2_e, ob3_e, ob4_e, ob6_e]

theorem bO_c (w : Int32) : f_X10_bytesOf w = some (nI (nz w)) := by
  obtain ⟨n, e⟩ : ∃ n, fu = n + 1 + 1 + 1 + 1 + 1 := ⟨fu - 5, by have := fu_le; omega⟩
  have h0 := z1_le (byt w 0); have h1 := z1_le (byt w 1); have h2 := z1_le (byt w 2); have h3 := z1_le (byt w 3)
  unfold f_X10_bytesOf b_X10_bytesOf_0
  rw [e]
  show f_X10_bytesOf_5 (n + 1 + 1 + 1 + 1 + 1) w (nI 0) (nI 24) = _
  rw [bO_0 _ _ _ (by omega), bO_1 _ _ _ (by omega), bO_2 _ _ _ (by omega), bO_3 _ _ _ (by omega)]
  unfold f_X10_bytesOf_5 b_X10_bytesOf_5
  rw [if_pos (by decide), Nat.zero_add]
  rfl
theorem pU_c (w : Int32) (s : Nat × (Nat → Int32)) (h : s.1 + nz w ≤ 240) : f_X10_put (nI s.1) s.2 w = some (nI (pt w s).1, (pt w s).2) := by
  obtain ⟨n, e⟩ : ∃ n, fu = n + 1 + 1 + 1 + 1 + 1 := ⟨fu - 5, by have := fu_le; omega⟩
  unfold nz at h
  unfold f_X10_put b_X10_put_0
  rw [e]
  show f_X10_put_3 (n + 1 + 1 + 1 + 1 + 1) (nI s.1) s.2 w (nI 24) = _
  rw [pU_0 _ _ _ (by rw [p1_1]; omega), pU_1 _ _ _ (by rw [p1_1, p1_1]; omega), pU_2 _ _ _ (by rw [p1_1, p1_1, p1_1]; omega), pU_3 _ _ _ (by rw [p1_1, p1_1, p1_1, p1_1]; omega)]
  unfold f_X10_put_3 b_X10_put_3
  rw [if_pos (by decide)]
  rfl
/-! the model -/
theorem bY_45 (t : Int32) : ∀ k, k < 20 → b_X12_byteOf_45 (nI k) t = some (byt t (k % 4)) := by
  intro k hk
  have hd : ∀ k, k < 20 → ((24 : Int32) - ((8 : Int32) * (rem (nI k) (4 : Int32)))) = nI (24 - 8 * (k % 4)) := by decide +kernel
  unfold b_X12_byteOf_45
  simp only [bnd_def]
  rw [hd k hk]
  rfl
def wd (v1 v2 v3 v4 v5 : Int32) (k : Nat) : Int32 := if k < 4 then v1 else if k < 8 then v2 else if k < 12 then v3 else if k < 16 then v4 else v5
theorem bY_c (v1 v2 v3 v4 v5 : Int32) {k : Nat} (hk : k < 20) : f_X12_byteOf v1 v2 v3 v4 v5 (nI k) = some (byt (wd v1 v2 v3 v4 v5 k) (k % 4)) := by
  unfold f_X12_byteOf b_X12_byteOf_0 wd
  by_cases h4 : k < 4
  · simp (disch := omega) only [neg_nI, lit_nI, nI_add, pk_mul, pk_sub, nI_clamp, inB_nI, gd_true, bnd_def, nI_leI, nI_ltI, nI_eq, nI_mI, mI_nI, nle_T, nle_F, nlt_T, nlt_F, neq_T, neq_F, ↓reduceIte, Nat.add_zero, Nat.zero_add, Nat.mul_zero, Nat.reduceAdd, Nat.reduceMul, Nat.reduceSub]
    rw [bY_45 _ k hk]
  by_cases h8 : k < 8
  · simp (disch := omega) only [neg_nI, lit_nI, nI_add, pk_mul, pk_sub, nI_clamp, inB_nI, gd_true, bnd_def, nI_leI, nI_ltI, nI_eq, nI_mI, mI_nI, nle_T, nle_F, nlt_T, nlt_F, neq_T, neq_F, ↓reduceIte, Nat.add_zero, Nat.zero_add, Nat.mul_zero, Nat.reduceAdd, Nat.reduceMul, Nat.reduceSub]
    rw [bY_45 _ k hk]
  by_cases h12 : k < 12
  · simp (disch := omega) only [neg_nI, lit_nI, nI_add, pk_mul, pk_sub, nI_clamp, inB_nI, gd_true, bnd_def, nI_leI, nI_ltI, nI_eq, nI_mI, mI_nI, nle_T, nle_F, nlt_T, nlt_F, neq_T, neq_F, ↓reduceIte, Nat.add_zero, Nat.zero_add, Nat.mul_zero, Nat.reduceAdd, Nat.reduceMul, Nat.reduceSub]
    rw [bY_45 _ k hk]
  by_cases h16 : k < 16
  · simp (disch := omega) only [neg_nI, lit_nI, nI_add, pk_mul, pk_sub, nI_clamp, inB_nI, gd_true, bnd_def, nI_leI, nI_ltI, nI_eq, nI_mI, mI_nI, nle_T, nle_F, nlt_T, nlt_F, neq_T, neq_F, ↓reduceIte, Nat.add_zero, Nat.zero_add, Nat.mul_zero, Nat.reduceAdd, Nat.reduceMul, Nat.reduceSub]
    rw [bY_45 _ k hk]
  · simp (disch := omega) only [neg_nI, lit_nI, nI_add, pk_mul, pk_sub, nI_clamp, inB_nI, gd_true, bnd_def, nI_leI, nI_ltI, nI_eq, nI_mI, mI_nI, nle_T, nle_F, nlt_T, nlt_F, neq_T, neq_F, ↓reduceIte, Nat.add_zero, Nat.zero_add, Nat.mul_zero, Nat.reduceAdd, Nat.reduceMul, Nat.reduceSub]
    rw [bY_45 _ k hk]
def ctF (b : Nat → Int32) : Nat → Nat → Nat
  | 0, _ => 0
  | j + 1, k => z1 (b k) + ctF b j (k + 1)
def ptF (b : Nat → Int32) : Nat → Nat → Nat × (Nat → Int32) → Nat × (Nat → Int32)
  | 0, _, s => s
  | j + 1, k, s => ptF b j (k + 1) (p1 (b k) s)
def wb (v1 v2 v3 v4 v5 : Int32) (k : Nat) : Int32 := byt (wd v1 v2 v3 v4 v5 k) (k % 4)
theorem ctF_le (b : Nat → Int32) : ∀ j k, ctF b j k ≤ j
  | 0, _ => Nat.le_refl _
  | j + 1, k => by unfold ctF; have := ctF_le b j (k + 1); have := z1_le (b k); omega
theorem ptF_1 (b : Nat → Int32) : ∀ j k s, (ptF b j k s).1 = s.1 + ctF b j k
  | 0, _, _ => rfl
  | j + 1, k, s => by unfold ptF ctF; rw [ptF_1 b j, p1_1]; omega
theorem ct_20 (v1 v2 v3 v4 v5 : Int32) : ctF (wb v1 v2 v3 v4 v5) 20 0 = nz v1 + nz v2 + nz v3 + nz v4 + nz v5 := by
  show z1 (byt v1 0) + (z1 (byt v1 1) + (z1 (byt v1 2) + (z1 (byt v1 3) + (z1 (byt v2 0) + (z1 (byt v2 1) + (z1 (byt v2 2) + (z1 (byt v2 3) + (z1 (byt v3 0) + (z1 (byt v3 1) + (z1 (byt v3 2) + (z1 (byt v3 3) + (z1 (byt v4 0) + (z1 (byt v4 1) + (z1 (byt v4 2) + (z1 (byt v4 3) + (z1 (byt v5 0) + (z1 (byt v5 1) + (z1 (byt v5 2) + (z1 (byt v5 3) + 0))))))))))))))))))) = _
  unfold nz
  omega
theorem pt_20 (v1 v2 v3 v4 v5 : Int32) (s : Nat × (Nat → Int32)) : ptF (wb v1 v2 v3 v4 v5) 20 0 s = pt v5 (pt v4 (pt v3 (pt v2 (pt v1 s)))) := rfl
theorem fY_6 {v1 v2 v3 v4 v5 : Int32} {sz : Int32} {t : Nat → Int32} : ∀ (j k c n : Nat), k + j = 20 → c ≤ k → j < n → f_X12_feed_6 n sz t v1 v2 v3 v4 v5 (nI c) (nI k) = (if sz + nI (c + ctF (wb v1 v2 v3 v4 v5) j k) ≤ (240 : Int32) then f_X12_feed_62 fu sz t v1 v2 v3 v4 v5 (0 : Int32) else some ((-1 : Int32), sz, t))
  | 0, k, c, n + 1, hk, hc, hn => by
    obtain rfl : k = 20 := by omega
    unfold f_X12_feed_6 b_X12_feed_6 ctF
    rw [if_pos (by decide)]
    rfl
  | j + 1, k, c, n + 1, hk, hc, hn => by
    have hk2 : ¬ ((20 : Int32) ≤ nI k) := by rw [lit_nI, nI_leI (by omega) (by omega)]; exact Nat.not_le.mpr (by omega)
    unfold f_X12_feed_6 b_X12_feed_6 ctF
    rw [if_neg hk2, bY_c _ _ _ _ _ (by omega), ob1_e]
    unfold b_X12_feed_35 z1
    change (if wb v1 v2 v3 v4 v5 k = nI 0 then _ else _) = _
    by_cases e : wb v1 v2 v3 v4 v5 k = nI 0
    · rw [if_pos e]
      simp only [bnd_def]
      rw [show nI c + (0 : Int32) = nI (c + 0) from nI_add c 0, show nI k + (1 : Int32) = nI (k + 1) from nI_add k 1, fY_6 j (k + 1) (c + 0) n (by omega) (by omega) (by omega), if_pos e, Nat.add_zero, Nat.zero_add]
    · rw [if_neg e]
      simp only [bnd_def]
      rw [show nI c + (1 : Int32) = nI (c + 1) from nI_add c 1, show nI k + (1 : Int32) = nI (k + 1) from nI_add k 1, fY_6 j (k + 1) (c + 1) n (by omega) (by omega) (by omega), if_neg e, Nat.add_assoc]
theorem fY_62 {v1 v2 v3 v4 v5 : Int32} : ∀ (j k n : Nat) (s : Nat × (Nat → Int32)), k + j = 20 → s.1 + ctF (wb v1 v2 v3 v4 v5) j k ≤ 240 → j < n → f_X12_feed_62 n (nI s.1) s.2 v1 v2 v3 v4 v5 (nI k) = some (nI (ptF (wb v1 v2 v3 v4 v5) j k s).1, nI (ptF (wb v1 v2 v3 v4 v5) j k s).1, (ptF (wb v1 v2 v3 v4 v5) j k s).2)
  | 0, k, n + 1, s, hk, hc, hn => by
    obtain rfl : k = 20 := by omega
    unfold f_X12_feed_62 b_X12_feed_62 ptF
    rw [if_pos (by decide)]
  | j + 1, k, n + 1, s, hk, hc, hn => by
    have hk2 : ¬ ((20 : Int32) ≤ nI k) := by rw [lit_nI, nI_leI (by omega) (by omega)]; exact Nat.not_le.mpr (by omega)
    unfold ctF at hc
    unfold f_X12_feed_62 b_X12_feed_62 ptF
    rw [if_neg hk2, bY_c _ _ _ _ _ (by omega), ob1_e]
    unfold b_X12_feed_109
    change (if wb v1 v2 v3 v4 v5 k = nI 0 then _ else _) = _
    have ih := fY_62 (v1 := v1) (v2 := v2) (v3 := v3) (v4 := v4) (v5 := v5) j (k + 1) n (p1 (wb v1 v2 v3 v4 v5 k) s) (by omega) (by rw [p1_1]; omega) (by omega)
    unfold p1 at ih ⊢
    by_cases e : wb v1 v2 v3 v4 v5 k = nI 0
    · rw [if_pos e] at ih ⊢
      simp only [bnd_def]
      rw [show nI k + (1 : Int32) = nI (k + 1) from nI_add k 1, ih, if_pos e]
    · rw [if_neg e] at ih ⊢
      unfold z1 at hc
      rw [if_neg e] at hc
      have hi : inB (nI s.1) 240 = true := inB_nI (by omega)
      simp only [bnd_def]
      rw [hi, gd_true, nI_clamp (by omega), show nI k + (1 : Int32) = nI (k + 1) from nI_add k 1, show nI s.1 + (1 : Int32) = nI (s.1 + 1) from nI_add s.1 1]
      exact ih.trans (by rw [if_neg e])
theorem s_feed {n : Nat} {t u : Nat → Int32} (hn : n ≤ 240) (h : RT n t u) (a b c d e : Int32) : ∃ r n' t' u', f_X11_feed (nI n) t a b c d e = some (r, nI n', t') ∧ f_X12_feed (nI n) u a b c d e = some (r, nI n', u') ∧ n' ≤ 240 ∧ RT n' t' u' := by
  have ha := nz_le a; have hb := nz_le b; have hc := nz_le c; have hd := nz_le d; have he := nz_le e
  have hm : f_X12_feed (nI n) u a b c d e = _ := fY_6 (sz := nI n) (t := u) (v1 := a) (v2 := b) (v3 := c) (v4 := d) (v5 := e) 20 0 0 fu (by omega) (by omega) (by have := fu_le; omega)
  rw [ct_20, Nat.zero_add, nI_add] at hm
  simp (disch := omega) only [lit_nI, nI_leI] at hm
  have hx : f_X11_feed (nI n) t a b c d e = b_X11_feed_0 (nI n) t a b c d e := rfl
  unfold b_X11_feed_0 at hx
  simp only [bO_c, ob1_e, bnd_def, nI_add] at hx
  simp (disch := omega) only [lit_nI, nI_leI] at hx
  by_cases q : n + (nz a + nz b + nz c + nz d + nz e) ≤ 240
  · rw [if_pos q] at hx hm
    rw [show nI n = nI (n, t).1 from rfl] at hx
    have p1 := pU_c a (n, t) (by show n + _ ≤ _; omega)
    have p2 := pU_c b (pt a (n, t)) (by rw [pt_1]; show n + _ + _ ≤ _; omega)
    have p3 := pU_c c (pt b (pt a (n, t))) (by rw [pt_1, pt_1]; show n + _ + _ + _ ≤ _; omega)
    have p4 := pU_c d (pt c (pt b (pt a (n, t)))) (by rw [pt_1, pt_1, pt_1]; show n + _ + _ + _ + _ ≤ _; omega)
    have p5 := pU_c e (pt d (pt c (pt b (pt a (n, t))))) (by rw [pt_1, pt_1, pt_1, pt_1]; show n + _ + _ + _ + _ + _ ≤ _; omega)
    have m1 : f_X12_feed (nI n) u a b c d e = _ := hm.trans (fY_62 (v1 := a) (v2 := b) (v3 := c) (v4 := d) (v5 := e) 20 0 fu (n, u) (by omega) (by rw [ct_20]; show n + _ ≤ _; omega) (by have := fu_le; omega))
    rw [pt_20] at m1
    have x1 : f_X11_feed (nI n) t a b c d e = some (nI (pt e (pt d (pt c (pt b (pt a (n, t)))))).1, nI (pt e (pt d (pt c (pt b (pt a (n, t)))))).1, (pt e (pt d (pt c (pt b (pt a (n, t)))))).2) := by
      refine hx.trans ?_
      rw [show f_X10_put (nI (n, t).1) t a = _ from p1, ob2_e, p2, ob2_e, p3, ob2_e, p4, ob2_e, p5, ob2_e]
    obtain ⟨e1, r1⟩ := pt_R (w := a) h
    have l1 := pt_1 a (n, t)
    generalize pt a (n, t) = x1t at *
    generalize pt a (n, u) = y1t at *
    obtain ⟨k1, t1⟩ := x1t
    obtain ⟨k1', u1⟩ := y1t
    obtain rfl : k1 = k1' := e1
    obtain ⟨e2, r2⟩ := pt_R (w := b) r1
    have l2 := pt_1 b (k1, t1)
    simp only at e2 r2
    generalize pt b (k1, t1) = x2t at *
    generalize pt b (k1, u1) = y2t at *
    obtain ⟨k2, t2⟩ := x2t
    obtain ⟨k2', u2⟩ := y2t
    obtain rfl : k2 = k2' := e2
    obtain ⟨e3, r3⟩ := pt_R (w := c) r2
    have l3 := pt_1 c (k2, t2)
    simp only at e3 r3
    generalize pt c (k2, t2) = x3t at *
    generalize pt c (k2, u2) = y3t at *
    obtain ⟨k3, t3⟩ := x3t
    obtain ⟨k3', u3⟩ := y3t
    obtain rfl : k3 = k3' := e3
    obtain ⟨e4, r4⟩ := pt_R (w := d) r3
    have l4 := pt_1 d (k3, t3)
    simp only at e4 r4
    generalize pt d (k3, t3) = x4t at *
    generalize pt d (k3, u3) = y4t at *
    obtain ⟨k4, t4⟩ := x4t
    obtain ⟨k4', u4⟩ := y4t
    obtain rfl : k4 = k4' := e4
    obtain ⟨e5, r5⟩ := pt_R (w := e) r4
    have l5 := pt_1 e (k4, t4)
    simp only at e5 r5
    generalize pt e (k4, t4) = x5t at *
    generalize pt e (k4, u4) = y5t at *
    obtain ⟨k5, t5⟩ := x5t
    obtain ⟨k5', u5⟩ := y5t
    obtain rfl : k5 = k5' := e5
    simp only at l1 l2 l3 l4 l5
    exact ⟨nI k5, k5, t5, u5, x1, m1, by omega, r5⟩
  · rw [if_neg q] at hx hm
    exact ⟨_, n, t, u, hx, hm, hn, h⟩
theorem s_end {n : Nat} {t u : Nat → Int32} (hn : n ≤ 240) (h : RT n t u) (a : Int32) : ∃ r n', f_X11_end (nI n) a = some (r, nI n') ∧ f_X12_end (nI n) a = some (r, nI n') ∧ n' ≤ 240 ∧ RT n' t u := by
  rcases rng a n (by omega) with ⟨j, hj, rfl⟩ | q | ⟨q1, q2, q3⟩
  · refine ⟨nI 1, j, ?_, ?_, by omega, fun i hi => h i (by omega)⟩
    · simp (disch := omega) only [f_X11_end, b_X11_end_0, neg_nI, lit_nI, nI_add, pk_mul, pk_sub, nI_clamp, inB_nI, gd_true, bnd_def, nI_leI, nI_ltI, nI_eq, nI_mI, mI_nI, nle_T, nle_F, nlt_T, nlt_F, neq_T, neq_F, ↓reduceIte, Nat.add_zero, Nat.zero_add, Nat.mul_zero, Nat.reduceAdd, Nat.reduceMul, Nat.reduceSub]
    · simp (disch := omega) only [f_X12_end, b_X12_end_0, neg_nI, lit_nI, nI_add, pk_mul, pk_sub, nI_clamp, inB_nI, gd_true, bnd_def, nI_leI, nI_ltI, nI_eq, nI_mI, mI_nI, nle_T, nle_F, nlt_T, nlt_F, neq_T, neq_F, ↓reduceIte, Nat.add_zero, Nat.zero_add, Nat.mul_zero, Nat.reduceAdd, Nat.reduceMul, Nat.reduceSub]
  · refine ⟨nI 0, n, ?_, ?_, hn, h⟩
    · simp only [f_X11_end, b_X11_end_0, lit_nI, if_pos q]
    · simp only [f_X12_end, b_X12_end_0, lit_nI, if_pos q]
  · refine ⟨nI 0, n, ?_, ?_, hn, h⟩
    · simp only [f_X11_end, b_X11_end_0, lit_nI, if_neg q1, if_neg q3]
    · simp only [f_X12_end, b_X12_end_0, lit_nI, if_neg q1, if_neg q3]
end
section
/-! signs and digits by both -/
def cIs (n a : Nat) (c : Int32) (t u : Nat → Int32) : Prop := (c = mI 1 ∧ a = n) ∨ ∃ b, 0 < b ∧ b ≤ 255 ∧ b ≠ 32 ∧ c = nI b ∧ a < n ∧ t a = nI b ∧ u a = nI b
def SG (n : Nat) (t u : Nat → Int32) (a a' : Nat) (c : Int32) : Prop := a ≤ a' ∧ a' ≤ n ∧ f_X10_sign (nI n) t (nI a) = some (c, nI a') ∧ f_X12_look (nI n) u (nI a) = some (c, nI a') ∧ f_X10_sign (nI n) t (nI a') = some (c, nI a') ∧ f_X12_look (nI n) u (nI a') = some (c, nI a') ∧ cIs n a' c t u
section TP
variable {n : Nat} {t u : Nat → Int32}
theorem here_out {a : Nat} (h : n ≤ a ∧ a < 2 ^ 30) : f_X12_here (nI n) (nI a) u = some (mI 1) := by
  simp (disch := omega) only [f_X12_here, b_X12_here_0, neg_nI, lit_nI, nI_add, pk_mul, pk_sub, nI_clamp, inB_nI, gd_true, bnd_def, nI_leI, nI_ltI, nI_eq, nI_mI, mI_nI, nle_T, nle_F, nlt_T, nlt_F, neq_T, neq_F, ↓reduceIte, Nat.add_zero, Nat.zero_add, Nat.mul_zero, Nat.reduceAdd, Nat.reduceMul, Nat.reduceSub]
theorem here_in {a : Nat} (h : a < n ∧ n ≤ 240) : f_X12_here (nI n) (nI a) u = some (u a) := by
  simp (disch := omega) only [f_X12_here, b_X12_here_0, neg_nI, lit_nI, nI_add, pk_mul, pk_sub, nI_clamp, inB_nI, gd_true, bnd_def, nI_leI, nI_ltI, nI_eq, nI_mI, mI_nI, nle_T, nle_F, nlt_T, nlt_F, neq_T, neq_F, ↓reduceIte, Nat.add_zero, Nat.zero_add, Nat.mul_zero, Nat.reduceAdd, Nat.reduceMul, Nat.reduceSub]
theorem sg_st {a : Nat} {c : Int32} (hn : n ≤ 240) (h : cIs n a c t u) (k : Nat) : f_X10_sign_0 (nI n) t (k + 1) (nI a) = some (c, nI a) ∧ f_X12_look_0 (nI n) u (k + 1) (nI a) = some (c, nI a) := by
  rcases h with ⟨rfl, rfl⟩ | ⟨b, b0, b1, b2, rfl, ha, et, eu⟩
  · constructor
    · simp (disch := omega) only [f_X10_sign_0, b_X10_sign_0, neg_nI, lit_nI, nI_add, pk_mul, pk_sub, nI_clamp, inB_nI, gd_true, bnd_def, nI_leI, nI_ltI, nI_eq, nI_mI, mI_nI, nle_T, nle_F, nlt_T, nlt_F, neq_T, neq_F, ↓reduceIte, Nat.add_zero, Nat.zero_add, Nat.mul_zero, Nat.reduceAdd, Nat.reduceMul, Nat.reduceSub]
    · simp (disch := omega) only [f_X12_look_0, b_X12_look_0, here_out, neg_nI, lit_nI, nI_add, pk_mul, pk_sub, nI_clamp, inB_nI, gd_true, bnd_def, nI_leI, nI_ltI, nI_eq, nI_mI, mI_nI, nle_T, nle_F, nlt_T, nlt_F, neq_T, neq_F, ↓reduceIte, Nat.add_zero, Nat.zero_add, Nat.mul_zero, Nat.reduceAdd, Nat.reduceMul, Nat.reduceSub, ob1_e, ob2_e, ob3_e, ob4_e, ob6_e]
  · constructor
    · simp (disch := omega) only [f_X10_sign_0, b_X10_sign_0, et, neg_nI, lit_nI, nI_add, pk_mul, pk_sub, nI_clamp, inB_nI, gd_true, bnd_def, nI_leI, nI_ltI, nI_eq, nI_mI, mI_nI, nle_T, nle_F, nlt_T, nlt_F, neq_T, neq_F, ↓reduceIte, Nat.add_zero, Nat.zero_add, Nat.mul_zero, Nat.reduceAdd, Nat.reduceMul, Nat.reduceSub]
    · simp (disch := omega) only [f_X12_look_0, b_X12_look_0, here_in, eu, neg_nI, lit_nI, nI_add, pk_mul, pk_sub, nI_clamp, inB_nI, gd_true, bnd_def, nI_leI, nI_ltI, nI_eq, nI_mI, mI_nI, nle_T, nle_F, nlt_T, nlt_F, neq_T, neq_F, ↓reduceIte, Nat.add_zero, Nat.zero_add, Nat.mul_zero, Nat.reduceAdd, Nat.reduceMul, Nat.reduceSub, ob1_e, ob2_e, ob3_e, ob4_e, ob6_e]
theorem sg_l (hn : n ≤ 240) (h : RT n t u) : ∀ (j a : Nat), a + j = n → ∃ a' c, a ≤ a' ∧ a' ≤ n ∧ cIs n a' c t u ∧ ∀ k, j < k → f_X10_sign_0 (nI n) t k (nI a) = some (c, nI a') ∧ f_X12_look_0 (nI n) u k (nI a) = some (c, nI a')
  | 0, a, e => by
    refine ⟨a, mI 1, by omega, by omega, Or.inl ⟨rfl, by omega⟩, fun k hk => ?_⟩
    obtain ⟨k, rfl⟩ : ∃ k', k = k' + 1 := ⟨k - 1, by omega⟩
    exact sg_st hn (Or.inl ⟨rfl, by omega⟩) k
  | j + 1, a, e => by
    obtain ⟨e1, b, b0, b1, e2⟩ := h a (by omega)
    by_cases q : b = 32
    · obtain ⟨a', c, h1, h2, h3, h4⟩ := sg_l hn h j (a + 1) (by omega)
      refine ⟨a', c, by omega, h2, h3, fun k hk => ?_⟩
      obtain ⟨k, rfl⟩ : ∃ k', k = k' + 1 := ⟨k - 1, by omega⟩
      obtain ⟨h5, h6⟩ := h4 k (by omega)
      subst q
      have e3 : u a = nI 32 := by rw [← e1, e2]
      constructor
      · rw [← h5]
        simp (disch := omega) only [f_X10_sign_0, b_X10_sign_0, e2, neg_nI, lit_nI, nI_add, pk_mul, pk_sub, nI_clamp, inB_nI, gd_true, bnd_def, nI_leI, nI_ltI, nI_eq, nI_mI, mI_nI, nle_T, nle_F, nlt_T, nlt_F, neq_T, neq_F, ↓reduceIte, Nat.add_zero, Nat.zero_add, Nat.mul_zero, Nat.reduceAdd, Nat.reduceMul, Nat.reduceSub]
      · rw [← h6]
        simp (disch := omega) only [f_X12_look_0, b_X12_look_0, here_in, e3, neg_nI, lit_nI, nI_add, pk_mul, pk_sub, nI_clamp, inB_nI, gd_true, bnd_def, nI_leI, nI_ltI, nI_eq, nI_mI, mI_nI, nle_T, nle_F, nlt_T, nlt_F, neq_T, neq_F, ↓reduceIte, Nat.add_zero, Nat.zero_add, Nat.mul_zero, Nat.reduceAdd, Nat.reduceMul, Nat.reduceSub, ob1_e, ob2_e, ob3_e, ob4_e, ob6_e]
    · have hc : cIs n a (nI b) t u := Or.inr ⟨b, b0, b1, q, rfl, by omega, e2, by rw [← e1, e2]⟩
      refine ⟨a, nI b, by omega, by omega, hc, fun k hk => ?_⟩
      obtain ⟨k, rfl⟩ : ∃ k', k = k' + 1 := ⟨k - 1, by omega⟩
      exact sg_st hn hc k
theorem sg_c (hn : n ≤ 240) (h : RT n t u) {a : Nat} (ha : a ≤ n) : ∃ a' c, SG n t u a a' c := by
  obtain ⟨a', c, h1, h2, h3, h4⟩ := sg_l hn h (n - a) a (by omega)
  have hf := fu_le
  obtain ⟨h5, h6⟩ := h4 fu (by omega)
  obtain ⟨k, e⟩ : ∃ k, fu = k + 1 := ⟨fu - 1, by omega⟩
  obtain ⟨h7, h8⟩ := sg_st hn h3 k
  rw [← e] at h7 h8
  exact ⟨a', c, h1, h2, h5, h6, h7, h8, h3⟩
theorem isDigit_y {d : Nat} (h : d ≤ 9) : f_X12_isDigit (nI (48 + d)) = some (nI 1) := by
  simp (disch := omega) only [f_X12_isDigit, b_X12_isDigit_0, neg_nI, lit_nI, nI_add, pk_mul, pk_sub, nI_clamp, inB_nI, gd_true, bnd_def, nI_leI, nI_ltI, nI_eq, nI_mI, mI_nI, nle_T, nle_F, nlt_T, nlt_F, neq_T, neq_F, ↓reduceIte, Nat.add_zero, Nat.zero_add, Nat.mul_zero, Nat.reduceAdd, Nat.reduceMul, Nat.reduceSub]
theorem isDigit_m : f_X12_isDigit (mI 1) = some (nI 0) := by
  unfold f_X12_isDigit b_X12_isDigit_0
  rw [if_pos (by decide)]; rfl
theorem isDigit_n {b : Nat} (h : b ≤ 255) (h2 : b < 48 ∨ 57 < b) : f_X12_isDigit (nI b) = some (nI 0) := by
  rcases h2 with h2 | h2
  · simp (disch := omega) only [f_X12_isDigit, b_X12_isDigit_0, neg_nI, lit_nI, nI_add, pk_mul, pk_sub, nI_clamp, inB_nI, gd_true, bnd_def, nI_leI, nI_ltI, nI_eq, nI_mI, mI_nI, nle_T, nle_F, nlt_T, nlt_F, neq_T, neq_F, ↓reduceIte, Nat.add_zero, Nat.zero_add, Nat.mul_zero, Nat.reduceAdd, Nat.reduceMul, Nat.reduceSub]
  · simp (disch := omega) only [f_X12_isDigit, b_X12_isDigit_0, neg_nI, lit_nI, nI_add, pk_mul, pk_sub, nI_clamp, inB_nI, gd_true, bnd_def, nI_leI, nI_ltI, nI_eq, nI_mI, mI_nI, nle_T, nle_F, nlt_T, nlt_F, neq_T, neq_F, ↓reduceIte, Nat.add_zero, Nat.zero_add, Nat.mul_zero, Nat.reduceAdd, Nat.reduceMul, Nat.reduceSub]
/-- a place holds a digit, or it doesn't -/
def DY (n : Nat) (t u : Nat → Int32) (a d : Nat) : Prop := d ≤ 9 ∧ a < n ∧ t a = nI (48 + d) ∧ f_X10_isAtDigit (nI n) (nI a) t = some (nI 1) ∧ f_X12_here (nI n) (nI a) u = some (nI (48 + d)) ∧ f_X12_isDigit (nI (48 + d)) = some (nI 1)
def DN (n : Nat) (t u : Nat → Int32) (a : Nat) : Prop := f_X10_isAtDigit (nI n) (nI a) t = some (nI 0) ∧ ∃ c, f_X12_here (nI n) (nI a) u = some c ∧ f_X12_isDigit c = some (nI 0)
theorem dg_c (hn : n ≤ 240) (h : RT n t u) {a : Nat} (ha : a ≤ n) : (∃ d, DY n t u a d) ∨ DN n t u a := by
  rcases Nat.lt_or_ge a n with q | q
  · obtain ⟨e1, b, b0, b1, e2⟩ := h a q
    have e3 : u a = nI b := by rw [← e1, e2]
    have hh : f_X12_here (nI n) (nI a) u = some (nI b) := by rw [here_in ⟨q, hn⟩, e3]
    by_cases q1 : b < 48
    · right
      refine ⟨?_, nI b, hh, isDigit_n b1 (Or.inl q1)⟩
      simp (disch := omega) only [f_X10_isAtDigit, b_X10_isAtDigit_0, e2, neg_nI, lit_nI, nI_add, pk_mul, pk_sub, nI_clamp, inB_nI, gd_true, bnd_def, nI_leI, nI_ltI, nI_eq, nI_mI, mI_nI, nle_T, nle_F, nlt_T, nlt_F, neq_T, neq_F, ↓reduceIte, Nat.add_zero, Nat.zero_add, Nat.mul_zero, Nat.reduceAdd, Nat.reduceMul, Nat.reduceSub]
    by_cases q2 : 57 < b
    · right
      refine ⟨?_, nI b, hh, isDigit_n b1 (Or.inr q2)⟩
      simp (disch := omega) only [f_X10_isAtDigit, b_X10_isAtDigit_0, e2, neg_nI, lit_nI, nI_add, pk_mul, pk_sub, nI_clamp, inB_nI, gd_true, bnd_def, nI_leI, nI_ltI, nI_eq, nI_mI, mI_nI, nle_T, nle_F, nlt_T, nlt_F, neq_T, neq_F, ↓reduceIte, Nat.add_zero, Nat.zero_add, Nat.mul_zero, Nat.reduceAdd, Nat.reduceMul, Nat.reduceSub]
    · left
      obtain ⟨d, rfl⟩ : ∃ d, b = 48 + d := ⟨b - 48, by omega⟩
      refine ⟨d, by omega, q, e2, ?_, hh, isDigit_y (by omega)⟩
      simp (disch := omega) only [f_X10_isAtDigit, b_X10_isAtDigit_0, e2, neg_nI, lit_nI, nI_add, pk_mul, pk_sub, nI_clamp, inB_nI, gd_true, bnd_def, nI_leI, nI_ltI, nI_eq, nI_mI, mI_nI, nle_T, nle_F, nlt_T, nlt_F, neq_T, neq_F, ↓reduceIte, Nat.add_zero, Nat.zero_add, Nat.mul_zero, Nat.reduceAdd, Nat.reduceMul, Nat.reduceSub]
  · right
    refine ⟨?_, mI 1, here_out ⟨q, by omega⟩, isDigit_m⟩
    simp (disch := omega) only [f_X10_isAtDigit, b_X10_isAtDigit_0, neg_nI, lit_nI, nI_add, pk_mul, pk_sub, nI_clamp, inB_nI, gd_true, bnd_def, nI_leI, nI_ltI, nI_eq, nI_mI, mI_nI, nle_T, nle_F, nlt_T, nlt_F, neq_T, neq_F, ↓reduceIte, Nat.add_zero, Nat.zero_add, Nat.mul_zero, Nat.reduceAdd, Nat.reduceMul, Nat.reduceSub]
theorem s48 (x e : Nat) : x + (48 + e) - 48 = x + e := by omega
theorem m10 (x : Nat) : x * 10 = 10 * x := Nat.mul_comm _ _
theorem bad_n (a : Int32) : f_X12_bad a (mI 1) = some a := by
  unfold f_X12_bad b_X12_bad_0 b_X12_bad_20
  rw [if_pos (show mI 1 = (-1 : Int32) from rfl)]
theorem bad_o (a : Int32) {w : Nat} (h : w < 2 ^ 30) : f_X12_bad a (nI w) = some (nI w) := by
  unfold f_X12_bad b_X12_bad_0 b_X12_bad_20
  rw [if_neg (by intro e; exact (nI_mI (n := w) (k := 1) (by omega)).mp e)]
theorem in_T {v hi : Nat} (h : v ≤ hi ∧ hi < 2 ^ 30) : f_X12_in (nI v) (nI 0) (nI hi) = some (nI 1) := in_c (by omega)
theorem in_F {v hi : Nat} (h : hi < v ∧ v < 2 ^ 30) : f_X12_in (nI v) (nI 0) (nI hi) = some (nI 0) := in_hi (nI_lt (by omega) (by omega))
/-- a sign that begins no number -/
theorem sg_dn {a a' : Nat} {c : Int32} (h : SG n t u a a' c) (q : ∀ b, c = nI b → b < 48 ∨ 57 < b) : f_X12_isDigit c = some (nI 0) := by
  rcases h.2.2.2.2.2.2 with ⟨e, _⟩ | ⟨b, b0, b1, b2, e, _⟩
  · rw [e]; exact isDigit_m
  · rw [e]; exact isDigit_n b1 (q b e)
theorem num2 (hn : n ≤ 240) (h : RT n t u) {a hi : Nat} (ha : a ≤ n) (hh : hi ≤ 99) : ∃ a', a ≤ a' ∧ a' ≤ n ∧ ((f_X10_number (nI n) t (nI a) (nI 2) = some (mI 1, nI a') ∧ ∃ v, f_X12_number (nI n) u (nI a) (mI 1) (nI 0) (nI hi) = some (v, nI a', nI a')) ∨ ∃ v, v ≤ 99 ∧ 0 < a' ∧ f_X10_number (nI n) t (nI a) (nI 2) = some (nI v, nI a') ∧ (v ≤ hi → f_X12_number (nI n) u (nI a) (mI 1) (nI 0) (nI hi) = some (nI v, nI a', mI 1)) ∧ (hi < v → ∃ w, f_X12_number (nI n) u (nI a) (mI 1) (nI 0) (nI hi) = some (w, nI (a' - 1), nI (a' - 1)))) := by
  obtain ⟨k, ef⟩ : ∃ k, fu = k + 1 + 1 + 1 := ⟨fu - 3, by have := fu_le; omega⟩
  obtain ⟨a1, c, hs⟩ := sg_c hn h ha
  obtain ⟨s1, s2, s3, s4, s5, s6, s7⟩ := hs
  rcases s7 with ⟨ec, en⟩ | ⟨b, b0, b1, b2, ec, hb, et, eu⟩
  · subst ec
    refine ⟨a1, s1, s2, Or.inl ⟨?_, nI 0, ?_⟩⟩
    · simp (disch := omega) only [f_X10_number, b_X10_number_0, s3, neg_nI, lit_nI, nI_add, pk_mul, pk_sub, nI_clamp, inB_nI, gd_true, bnd_def, nI_leI, nI_ltI, nI_eq, nI_mI, mI_nI, nle_T, nle_F, nlt_T, nlt_F, neq_T, neq_F, ↓reduceIte, Nat.add_zero, Nat.zero_add, Nat.mul_zero, Nat.reduceAdd, Nat.reduceMul, Nat.reduceSub, ob1_e, ob2_e, ob3_e, ob4_e, ob6_e]
    · simp (disch := omega) only [f_X12_number, b_X12_number_0, s4, isDigit_m, bad_n, neg_nI, lit_nI, nI_add, pk_mul, pk_sub, nI_clamp, inB_nI, gd_true, bnd_def, nI_leI, nI_ltI, nI_eq, nI_mI, mI_nI, nle_T, nle_F, nlt_T, nlt_F, neq_T, neq_F, ↓reduceIte, Nat.add_zero, Nat.zero_add, Nat.mul_zero, Nat.reduceAdd, Nat.reduceMul, Nat.reduceSub, ob1_e, ob2_e, ob3_e, ob4_e, ob6_e]
  subst ec
  have hm : (nI b = mI 1) = False := nI_mI (by omega)
  rcases dg_c hn h (a := a1) s2 with ⟨d, d1, d2, d3, d4, d5, d6⟩ | ⟨d4, c5, d5, d6⟩
  · have ebd : nI b = nI (48 + d) := by rw [← et, d3]
    rw [ebd] at s4 s3 hm
    rcases dg_c hn h (a := a1 + 1) (by omega) with ⟨e, e1, e2, e3, e4, e5, e6⟩ | ⟨e4, c5, e5, e6⟩
    · rcases dg_c hn h (a := a1 + 1 + 1) (by omega) with ⟨g, g1, g2, g3, g4, g5, g6⟩ | ⟨g4, c7, g5, g6⟩
      · refine ⟨a1 + 1 + 1, by omega, by omega, Or.inl ⟨?_, nI (10 * d + e), ?_⟩⟩
        · simp (disch := omega) only [f_X10_number, b_X10_number_0, s3, hm, ef, f_X10_number_14, b_X10_number_14, d3, d4, e3, e4, g4, m10, s48, Nat.zero_mul, Nat.mul_zero, Nat.add_sub_cancel_left, b_X10_number_60, b_X10_number_71, neg_nI, lit_nI, nI_add, pk_mul, pk_sub, nI_clamp, inB_nI, gd_true, bnd_def, nI_leI, nI_ltI, nI_eq, nI_mI, mI_nI, nle_T, nle_F, nlt_T, nlt_F, neq_T, neq_F, ↓reduceIte, Nat.add_zero, Nat.zero_add, Nat.mul_zero, Nat.reduceAdd, Nat.reduceMul, Nat.reduceSub, ob1_e, ob2_e, ob3_e, ob4_e, ob6_e]
        · simp (disch := omega) only [f_X12_number, b_X12_number_0, b_X12_number_67, s4, d5, d6, e5, e6, g5, g6, s48, Nat.add_sub_cancel_left, bad_n, neg_nI, lit_nI, nI_add, pk_mul, pk_sub, nI_clamp, inB_nI, gd_true, bnd_def, nI_leI, nI_ltI, nI_eq, nI_mI, mI_nI, nle_T, nle_F, nlt_T, nlt_F, neq_T, neq_F, ↓reduceIte, Nat.add_zero, Nat.zero_add, Nat.mul_zero, Nat.reduceAdd, Nat.reduceMul, Nat.reduceSub, ob1_e, ob2_e, ob3_e, ob4_e, ob6_e]
      · refine ⟨a1 + 1 + 1, by omega, by omega, Or.inr ⟨10 * d + e, by omega, by omega, ?_, fun q => ?_, fun q => ⟨nI (10 * d + e), ?_⟩⟩⟩
        · simp (disch := omega) only [f_X10_number, b_X10_number_0, s3, hm, ef, f_X10_number_14, b_X10_number_14, d3, d4, e3, e4, g4, m10, s48, Nat.zero_mul, Nat.mul_zero, Nat.add_sub_cancel_left, b_X10_number_60, b_X10_number_71, neg_nI, lit_nI, nI_add, pk_mul, pk_sub, nI_clamp, inB_nI, gd_true, bnd_def, nI_leI, nI_ltI, nI_eq, nI_mI, mI_nI, nle_T, nle_F, nlt_T, nlt_F, neq_T, neq_F, ↓reduceIte, Nat.add_zero, Nat.zero_add, Nat.mul_zero, Nat.reduceAdd, Nat.reduceMul, Nat.reduceSub, ob1_e, ob2_e, ob3_e, ob4_e, ob6_e]
        · simp (disch := omega) only [f_X12_number, b_X12_number_0, b_X12_number_67, s4, d5, d6, e5, e6, g5, g6, s48, Nat.add_sub_cancel_left, bad_n, in_T, neg_nI, lit_nI, nI_add, pk_mul, pk_sub, nI_clamp, inB_nI, gd_true, bnd_def, nI_leI, nI_ltI, nI_eq, nI_mI, mI_nI, nle_T, nle_F, nlt_T, nlt_F, neq_T, neq_F, ↓reduceIte, Nat.add_zero, Nat.zero_add, Nat.mul_zero, Nat.reduceAdd, Nat.reduceMul, Nat.reduceSub, ob1_e, ob2_e, ob3_e, ob4_e, ob6_e]
        · simp (disch := omega) only [f_X12_number, b_X12_number_0, b_X12_number_67, s4, d5, d6, e5, e6, g5, g6, s48, Nat.add_sub_cancel_left, bad_n, in_F, neg_nI, lit_nI, nI_add, pk_mul, pk_sub, nI_clamp, inB_nI, gd_true, bnd_def, nI_leI, nI_ltI, nI_eq, nI_mI, mI_nI, nle_T, nle_F, nlt_T, nlt_F, neq_T, neq_F, ↓reduceIte, Nat.add_zero, Nat.zero_add, Nat.mul_zero, Nat.reduceAdd, Nat.reduceMul, Nat.reduceSub, ob1_e, ob2_e, ob3_e, ob4_e, ob6_e]
    · refine ⟨a1 + 1, by omega, by omega, Or.inr ⟨d, by omega, by omega, ?_, fun q => ?_, fun q => ⟨nI d, ?_⟩⟩⟩
      · simp (disch := omega) only [f_X10_number, b_X10_number_0, s3, hm, ef, f_X10_number_14, b_X10_number_14, d3, d4, e4, m10, s48, Nat.zero_mul, Nat.mul_zero, Nat.add_sub_cancel_left, b_X10_number_60, b_X10_number_71, neg_nI, lit_nI, nI_add, pk_mul, pk_sub, nI_clamp, inB_nI, gd_true, bnd_def, nI_leI, nI_ltI, nI_eq, nI_mI, mI_nI, nle_T, nle_F, nlt_T, nlt_F, neq_T, neq_F, ↓reduceIte, Nat.add_zero, Nat.zero_add, Nat.mul_zero, Nat.reduceAdd, Nat.reduceMul, Nat.reduceSub, ob1_e, ob2_e, ob3_e, ob4_e, ob6_e]
      · simp (disch := omega) only [f_X12_number, b_X12_number_0, b_X12_number_67, s4, d5, d6, e5, e6, s48, Nat.add_sub_cancel_left, bad_n, in_T, neg_nI, lit_nI, nI_add, pk_mul, pk_sub, nI_clamp, inB_nI, gd_true, bnd_def, nI_leI, nI_ltI, nI_eq, nI_mI, mI_nI, nle_T, nle_F, nlt_T, nlt_F, neq_T, neq_F, ↓reduceIte, Nat.add_zero, Nat.zero_add, Nat.mul_zero, Nat.reduceAdd, Nat.reduceMul, Nat.reduceSub, ob1_e, ob2_e, ob3_e, ob4_e, ob6_e]
      · simp (disch := omega) only [f_X12_number, b_X12_number_0, b_X12_number_67, s4, d5, d6, e5, e6, s48, Nat.add_sub_cancel_left, bad_n, in_F, neg_nI, lit_nI, nI_add, pk_mul, pk_sub, nI_clamp, inB_nI, gd_true, bnd_def, nI_leI, nI_ltI, nI_eq, nI_mI, mI_nI, nle_T, nle_F, nlt_T, nlt_F, neq_T, neq_F, ↓reduceIte, Nat.add_zero, Nat.zero_add, Nat.mul_zero, Nat.reduceAdd, Nat.reduceMul, Nat.reduceSub, ob1_e, ob2_e, ob3_e, ob4_e, ob6_e]
  · have ec : c5 = nI b := by
      have := here_in (u := u) (n := n) (a := a1) ⟨hb, hn⟩
      rw [d5, eu] at this
      exact Option.some.inj this
    rw [ec] at d6
    refine ⟨a1, s1, s2, Or.inl ⟨?_, nI 0, ?_⟩⟩
    · simp (disch := omega) only [f_X10_number, b_X10_number_0, s3, hm, ef, f_X10_number_14, b_X10_number_14, d4, b_X10_number_60, b_X10_number_71, neg_nI, lit_nI, nI_add, pk_mul, pk_sub, nI_clamp, inB_nI, gd_true, bnd_def, nI_leI, nI_ltI, nI_eq, nI_mI, mI_nI, nle_T, nle_F, nlt_T, nlt_F, neq_T, neq_F, ↓reduceIte, Nat.add_zero, Nat.zero_add, Nat.mul_zero, Nat.reduceAdd, Nat.reduceMul, Nat.reduceSub, ob1_e, ob2_e, ob3_e, ob4_e, ob6_e]
    · simp (disch := omega) only [f_X12_number, b_X12_number_0, s4, d6, bad_n, neg_nI, lit_nI, nI_add, pk_mul, pk_sub, nI_clamp, inB_nI, gd_true, bnd_def, nI_leI, nI_ltI, nI_eq, nI_mI, mI_nI, nle_T, nle_F, nlt_T, nlt_F, neq_T, neq_F, ↓reduceIte, Nat.add_zero, Nat.zero_add, Nat.mul_zero, Nat.reduceAdd, Nat.reduceMul, Nat.reduceSub, ob1_e, ob2_e, ob3_e, ob4_e, ob6_e]
end TP
end
