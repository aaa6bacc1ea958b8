/-! rests -/
theorem allF_and {p q r : Nat → Bool} : ∀ (j k : Nat), (∀ i, k ≤ i → i < k + j → p i = (q i && r i)) → allF p j k = (allF q j k && allF r j k)
  | 0, _, _ => rfl
  | j + 1, k, h => by
    unfold allF
    rw [h k (by omega) (by omega), allF_and j (k + 1) (fun i h1 h2 => h i (by omega) (by omega))]
    cases q k <;> cases r k <;> cases allF q j (k + 1) <;> cases allF r j (k + 1) <;> rfl
theorem isZ_bz (b : Bool) : isZ (bz b) = true := by cases b <;> rfl
section RT
variable {R : R6} {lh : Int32} {ll l0 l1 l2 l3 : Nat → Int32} {mh : Int32} {mc mv mk mt ms mu : Nat → Int32}
variable {G M : Nat} {th ta mg c m : Nat → Int32}
def pR0 (R : R6) (th ta c : Nat → Int32) (a b t : Nat) : Bool := decide (th t = nI 0 → ga R ta c (some t) (some b) ≤ ga R ta c (some a) (some b))
def pR1 (R : R6) (th ta c : Nat → Int32) (a b t : Nat) : Bool := decide (th t = nI 1 → ga R ta c (some t) (some a) ≤ ga R ta c (some b) (some a))
theorem restX_l (hX : RiseX R lh ll l0 l1 l2 l3) (hG : G ≤ 6) (h01 : ∀ g, g < G → th g = nI 0 ∨ th g = nI 1) {a b : Nat} (ha : a < G) (hb : b < G) : ∀ (j t n : Nat) (lt st : Nat → Int32), t + j = G → j < n → ∃ lt' st', f_X11_isRest_24 (nI G) th ta lh ll l0 l1 l2 l3 c n lt st (nI a) (nI b) (ga R ta c (some a) (some b)) (ga R ta c (some b) (some a)) (nI t) = some (bz (allF (fun t => pR0 R th ta c a b t && pR1 R th ta c a b t) j t), lt', st') := by
  intro j
  induction j with
  | zero =>
    intro t n lt st ht h1
    obtain ⟨n, rfl⟩ : ∃ q, n = q + 1 := ⟨n - 1, by omega⟩
    exact ⟨lt, st, by simp (disch := omega) only [f_X11_isRest_24, f_X11_isRest, b_X11_isRest_91, b_X11_isRest_24, b_X11_isRest_0, allF, bz_t, neg_nI, lit_nI, nI_add, pk_mul, pk_sub, nI_clamp, inB_nI, gd_true, bnd_def, nI_leI, nI_ltI, nI_eq, nI_mI, mI_nI, nle_T, nle_F, nlt_T, nlt_F, neq_T, neq_F, ↓reduceIte, Nat.add_zero, Nat.zero_add, Nat.mul_zero, Nat.reduceAdd, Nat.reduceMul, Nat.reduceSub, ob1_e, ob2_e, ob3_e, ob4_e, ob6_e]⟩
  | succ j ih =>
    intro t n lt st ht h1
    obtain ⟨n, rfl⟩ : ∃ q, n = q + 1 := ⟨n - 1, by omega⟩
    have n01 : ¬ nI 1 = nI 0 := by decide
    have n10 : ¬ nI 0 = nI 1 := by decide
    rcases h01 t (by omega) with e | e
    · obtain ⟨lt1, st1, x1⟩ := gains_c hX hG (ta := ta) (c := c) (some t) (some b) (fun q z => by cases z; omega) (fun q z => by cases z; exact hb) lt st
      simp only [gx] at x1
      have p1 : pR1 R th ta c a b t = true := by unfold pR1; exact decide_eq_true (fun z => absurd (e.symm.trans z) n10)
      by_cases hv : ga R ta c (some t) (some b) ≤ ga R ta c (some a) (some b)
      · have p0 : pR0 R th ta c a b t = true := by unfold pR0; exact decide_eq_true (fun _ => hv)
        obtain ⟨lt2, st2, e2⟩ := ih (t + 1) n lt1 st1 (by omega) (by omega)
        refine ⟨lt2, st2, ?_⟩
        simp (disch := omega) only [f_X11_isRest_24, f_X11_isRest, b_X11_isRest_91, b_X11_isRest_24, b_X11_isRest_0, allF, e, x1, hv, p0, p1, Bool.true_and, e2, neg_nI, lit_nI, nI_add, pk_mul, pk_sub, nI_clamp, inB_nI, gd_true, bnd_def, nI_leI, nI_ltI, nI_eq, nI_mI, mI_nI, nle_T, nle_F, nlt_T, nlt_F, neq_T, neq_F, ↓reduceIte, Nat.add_zero, Nat.zero_add, Nat.mul_zero, Nat.reduceAdd, Nat.reduceMul, Nat.reduceSub, ob1_e, ob2_e, ob3_e, ob4_e, ob6_e]
      · have p0 : pR0 R th ta c a b t = false := by unfold pR0; exact decide_eq_false (fun z => hv (z e))
        refine ⟨lt1, st1, ?_⟩
        simp (disch := omega) only [f_X11_isRest_24, f_X11_isRest, b_X11_isRest_91, b_X11_isRest_24, b_X11_isRest_0, allF, e, x1, hv, p0, p1, Bool.false_and, bz_f, neg_nI, lit_nI, nI_add, pk_mul, pk_sub, nI_clamp, inB_nI, gd_true, bnd_def, nI_leI, nI_ltI, nI_eq, nI_mI, mI_nI, nle_T, nle_F, nlt_T, nlt_F, neq_T, neq_F, ↓reduceIte, Nat.add_zero, Nat.zero_add, Nat.mul_zero, Nat.reduceAdd, Nat.reduceMul, Nat.reduceSub, ob1_e, ob2_e, ob3_e, ob4_e, ob6_e]
    · obtain ⟨lt1, st1, x1⟩ := gains_c hX hG (ta := ta) (c := c) (some t) (some a) (fun q z => by cases z; omega) (fun q z => by cases z; exact ha) lt st
      simp only [gx] at x1
      have p0 : pR0 R th ta c a b t = true := by unfold pR0; exact decide_eq_true (fun z => absurd (e.symm.trans z) n01)
      by_cases hv : ga R ta c (some t) (some a) ≤ ga R ta c (some b) (some a)
      · have p1 : pR1 R th ta c a b t = true := by unfold pR1; exact decide_eq_true (fun _ => hv)
        obtain ⟨lt2, st2, e2⟩ := ih (t + 1) n lt1 st1 (by omega) (by omega)
        refine ⟨lt2, st2, ?_⟩
        simp (disch := omega) only [f_X11_isRest_24, f_X11_isRest, b_X11_isRest_91, b_X11_isRest_24, b_X11_isRest_0, allF, e, x1, hv, p0, p1, Bool.true_and, e2, neg_nI, lit_nI, nI_add, pk_mul, pk_sub, nI_clamp, inB_nI, gd_true, bnd_def, nI_leI, nI_ltI, nI_eq, nI_mI, mI_nI, nle_T, nle_F, nlt_T, nlt_F, neq_T, neq_F, ↓reduceIte, Nat.add_zero, Nat.zero_add, Nat.mul_zero, Nat.reduceAdd, Nat.reduceMul, Nat.reduceSub, ob1_e, ob2_e, ob3_e, ob4_e, ob6_e]
      · have p1 : pR1 R th ta c a b t = false := by unfold pR1; exact decide_eq_false (fun z => hv (z e))
        refine ⟨lt1, st1, ?_⟩
        simp (disch := omega) only [f_X11_isRest_24, f_X11_isRest, b_X11_isRest_91, b_X11_isRest_24, b_X11_isRest_0, allF, e, x1, hv, p0, p1, Bool.false_and, Bool.and_false, bz_f, neg_nI, lit_nI, nI_add, pk_mul, pk_sub, nI_clamp, inB_nI, gd_true, bnd_def, nI_leI, nI_ltI, nI_eq, nI_mI, mI_nI, nle_T, nle_F, nlt_T, nlt_F, neq_T, neq_F, ↓reduceIte, Nat.add_zero, Nat.zero_add, Nat.mul_zero, Nat.reduceAdd, Nat.reduceMul, Nat.reduceSub, ob1_e, ob2_e, ob3_e, ob4_e, ob6_e]
theorem restY1_l (hY : RiseY R mh mc mv mk mt ms mu) (hG : G ≤ 6) (hh : ∀ g, g < G → mg (4 * g) = th g) (hal : ∀ g, g < G → mg (4 * g + 3) = ta g) (hN : RN G M c m) {a b : Nat} (ha : a < G) (hb : b < G) (ea : th a = nI 0) (eb : th b = nI 1) : ∀ (j t n : Nat) (lt st : Nat → Int32) (is : Bool), t + j = G → j < n → ∃ lt' st', f_X12_isRest_52 (nI G) mh mc mv mk mt ms mu mg m n lt st (nI (cnt th (nI 0) a)) (nI (cnt th (nI 1) b)) (bz is) (nI (cnt th (nI 1) t)) = some (bz (is && allF (pR1 R th ta c a b) j t), lt', st') := by
  have hm := sizeY_c (th := th) (mg := mg) (h := nI 1) hG hh
  have hcG := cnt_le th (nI 1) G
  have na := nt_at hG ha ea
  have nb := nt_at hG hb eb
  intro j
  induction j with
  | zero =>
    intro t n lt st is ht h1
    obtain ⟨n, rfl⟩ : ∃ q, n = q + 1 := ⟨n - 1, by omega⟩
    have et : t = G := by omega
    subst et
    exact ⟨lt, st, by simp (disch := omega) only [f_X12_isRest_52, b_X12_isRest_52, allF, hm, isZ_bz, Bool.and_true, neg_nI, lit_nI, nI_add, pk_mul, pk_sub, nI_clamp, inB_nI, gd_true, bnd_def, nI_leI, nI_ltI, nI_eq, nI_mI, mI_nI, nle_T, nle_F, nlt_T, nlt_F, neq_T, neq_F, ↓reduceIte, Nat.add_zero, Nat.zero_add, Nat.mul_zero, Nat.reduceAdd, Nat.reduceMul, Nat.reduceSub, ob1_e, ob2_e, ob3_e, ob4_e, ob6_e]⟩
  | succ j ih =>
    intro t n lt st is ht h1
    by_cases e : th t = nI 1
    · obtain ⟨n, rfl⟩ : ∃ q, n = q + 1 := ⟨n - 1, by omega⟩
      have hlt := cnt_lt e (show t < G by omega)
      cases is with
      | false =>
        obtain ⟨lt2, st2, e2⟩ := ih (t + 1) n lt st false (by omega) (by omega)
        rw [cnt_y e, bz_f] at e2
        refine ⟨lt2, st2, ?_⟩
        rw [bz_f]
        simp (disch := omega) only [f_X12_isRest_52, f_X12_isRest, b_X12_isRest_42, b_X12_isRest_41, b_X12_isRest_89, b_X12_isRest_88, b_X12_isRest_52, b_X12_isRest_5, b_X12_isRest_0, hm, e2, Bool.false_and, bz_f, neg_nI, lit_nI, nI_add, pk_mul, pk_sub, nI_clamp, inB_nI, gd_true, bnd_def, nI_leI, nI_ltI, nI_eq, nI_mI, mI_nI, nle_T, nle_F, nlt_T, nlt_F, neq_T, neq_F, ↓reduceIte, Nat.add_zero, Nat.zero_add, Nat.mul_zero, Nat.reduceAdd, Nat.reduceMul, Nat.reduceSub, ob1_e, ob2_e, ob3_e, ob4_e, ob6_e]
      | true =>
        obtain ⟨lt1, st1, y1⟩ := gameOf_c hY hG hh hal hN (x := nI (cnt th (nI 0) a)) (y := nI (cnt th (nI 1) t)) (z := some a) (w := some t) na (nt_at hG (by omega) e) (fun q z => by cases z; exact ha) (fun q z => by cases z; omega) 1 (by omega) lt st
        obtain ⟨lt2, st2, y2⟩ := gameOf_c hY hG hh hal hN (x := nI (cnt th (nI 0) a)) (y := nI (cnt th (nI 1) b)) (z := some a) (w := some b) na nb (fun q z => by cases z; exact ha) (fun q z => by cases z; exact hb) 1 (by omega) lt1 st1
        rw [if_neg (by omega)] at y1 y2
        by_cases hv : ga R ta c (some t) (some a) ≤ ga R ta c (some b) (some a)
        · have p1 : pR1 R th ta c a b t = true := by unfold pR1; exact decide_eq_true (fun _ => hv)
          have hv2 : ¬ ga R ta c (some b) (some a) < ga R ta c (some t) (some a) := by
            rw [le32] at hv
            rw [lt32]
            omega
          obtain ⟨lt3, st3, e2⟩ := ih (t + 1) n lt2 st2 true (by omega) (by omega)
          rw [cnt_y e, bz_t] at e2
          refine ⟨lt3, st3, ?_⟩
          rw [bz_t]
          simp (disch := omega) only [f_X12_isRest_52, f_X12_isRest, b_X12_isRest_42, b_X12_isRest_41, b_X12_isRest_89, b_X12_isRest_88, b_X12_isRest_52, b_X12_isRest_5, b_X12_isRest_0, hm, y1, y2, hv2, allF, p1, Bool.true_and, e2, neg_nI, lit_nI, nI_add, pk_mul, pk_sub, nI_clamp, inB_nI, gd_true, bnd_def, nI_leI, nI_ltI, nI_eq, nI_mI, mI_nI, nle_T, nle_F, nlt_T, nlt_F, neq_T, neq_F, ↓reduceIte, Nat.add_zero, Nat.zero_add, Nat.mul_zero, Nat.reduceAdd, Nat.reduceMul, Nat.reduceSub, ob1_e, ob2_e, ob3_e, ob4_e, ob6_e]
        · have p1 : pR1 R th ta c a b t = false := by unfold pR1; exact decide_eq_false (fun z => hv (z e))
          have hv2 : ga R ta c (some b) (some a) < ga R ta c (some t) (some a) := by
            rw [le32] at hv
            rw [lt32]
            omega
          obtain ⟨lt3, st3, e2⟩ := ih (t + 1) n lt2 st2 false (by omega) (by omega)
          rw [cnt_y e, bz_f] at e2
          refine ⟨lt3, st3, ?_⟩
          rw [bz_t]
          simp (disch := omega) only [f_X12_isRest_52, f_X12_isRest, b_X12_isRest_42, b_X12_isRest_41, b_X12_isRest_89, b_X12_isRest_88, b_X12_isRest_52, b_X12_isRest_5, b_X12_isRest_0, hm, y1, y2, hv2, allF, p1, Bool.false_and, Bool.true_and, Bool.and_false, bz_f, e2, neg_nI, lit_nI, nI_add, pk_mul, pk_sub, nI_clamp, inB_nI, gd_true, bnd_def, nI_leI, nI_ltI, nI_eq, nI_mI, mI_nI, nle_T, nle_F, nlt_T, nlt_F, neq_T, neq_F, ↓reduceIte, Nat.add_zero, Nat.zero_add, Nat.mul_zero, Nat.reduceAdd, Nat.reduceMul, Nat.reduceSub, ob1_e, ob2_e, ob3_e, ob4_e, ob6_e]
    · have p1 : pR1 R th ta c a b t = true := by unfold pR1; exact decide_eq_true (fun z => absurd z e)
      obtain ⟨lt3, st3, e2⟩ := ih (t + 1) n lt st is (by omega) (by omega)
      rw [cnt_n e] at e2
      refine ⟨lt3, st3, ?_⟩
      rw [allF, p1, Bool.true_and]
      exact e2
theorem restY0_l (hY : RiseY R mh mc mv mk mt ms mu) (hG : G ≤ 6) (hh : ∀ g, g < G → mg (4 * g) = th g) (hal : ∀ g, g < G → mg (4 * g + 3) = ta g) (hN : RN G M c m) {a b : Nat} (ha : a < G) (hb : b < G) (ea : th a = nI 0) (eb : th b = nI 1) : ∀ (j t n : Nat) (lt st : Nat → Int32) (is : Bool), t + j = G → j < n → ∃ lt' st', f_X12_isRest_5 (nI G) mh mc mv mk mt ms mu mg m n lt st (nI (cnt th (nI 0) a)) (nI (cnt th (nI 1) b)) (bz is) (nI (cnt th (nI 0) t)) = f_X12_isRest_52 (nI G) mh mc mv mk mt ms mu mg m fu lt' st' (nI (cnt th (nI 0) a)) (nI (cnt th (nI 1) b)) (bz (is && allF (pR0 R th ta c a b) j t)) (nI 0) := by
  have hm := sizeY_c (th := th) (mg := mg) (h := nI 0) hG hh
  have hcG := cnt_le th (nI 0) G
  have na := nt_at hG ha ea
  have nb := nt_at hG hb eb
  intro j
  induction j with
  | zero =>
    intro t n lt st is ht h1
    obtain ⟨n, rfl⟩ : ∃ q, n = q + 1 := ⟨n - 1, by omega⟩
    have et : t = G := by omega
    subst et
    exact ⟨lt, st, by simp (disch := omega) only [f_X12_isRest_5, b_X12_isRest_5, allF, hm, Bool.and_true, neg_nI, lit_nI, nI_add, pk_mul, pk_sub, nI_clamp, inB_nI, gd_true, bnd_def, nI_leI, nI_ltI, nI_eq, nI_mI, mI_nI, nle_T, nle_F, nlt_T, nlt_F, neq_T, neq_F, ↓reduceIte, Nat.add_zero, Nat.zero_add, Nat.mul_zero, Nat.reduceAdd, Nat.reduceMul, Nat.reduceSub, ob1_e, ob2_e, ob3_e, ob4_e, ob6_e]⟩
  | succ j ih =>
    intro t n lt st is ht h1
    by_cases e : th t = nI 0
    · obtain ⟨n, rfl⟩ : ∃ q, n = q + 1 := ⟨n - 1, by omega⟩
      have hlt := cnt_lt e (show t < G by omega)
      cases is with
      | false =>
        obtain ⟨lt2, st2, e2⟩ := ih (t + 1) n lt st false (by omega) (by omega)
        rw [cnt_y e, bz_f] at e2
        refine ⟨lt2, st2, ?_⟩
        rw [bz_f]
        simp (disch := omega) only [f_X12_isRest_5, b_X12_isRest_5, b_X12_isRest_41, b_X12_isRest_42, hm, e2, Bool.false_and, bz_f, neg_nI, lit_nI, nI_add, pk_mul, pk_sub, nI_clamp, inB_nI, gd_true, bnd_def, nI_leI, nI_ltI, nI_eq, nI_mI, mI_nI, nle_T, nle_F, nlt_T, nlt_F, neq_T, neq_F, ↓reduceIte, Nat.add_zero, Nat.zero_add, Nat.mul_zero, Nat.reduceAdd, Nat.reduceMul, Nat.reduceSub, ob1_e, ob2_e, ob3_e, ob4_e, ob6_e]
      | true =>
        obtain ⟨lt1, st1, y1⟩ := gameOf_c hY hG hh hal hN (x := nI (cnt th (nI 0) t)) (y := nI (cnt th (nI 1) b)) (z := some t) (w := some b) (nt_at hG (by omega) e) nb (fun q z => by cases z; omega) (fun q z => by cases z; exact hb) 0 (by omega) lt st
        obtain ⟨lt2, st2, y2⟩ := gameOf_c hY hG hh hal hN (x := nI (cnt th (nI 0) a)) (y := nI (cnt th (nI 1) b)) (z := some a) (w := some b) na nb (fun q z => by cases z; exact ha) (fun q z => by cases z; exact hb) 0 (by omega) lt1 st1
        rw [if_pos rfl] at y1 y2
        by_cases hv : ga R ta c (some t) (some b) ≤ ga R ta c (some a) (some b)
        · have p1 : pR0 R th ta c a b t = true := by unfold pR0; exact decide_eq_true (fun _ => hv)
          have hv2 : ¬ ga R ta c (some a) (some b) < ga R ta c (some t) (some b) := by
            rw [le32] at hv
            rw [lt32]
            omega
          obtain ⟨lt3, st3, e2⟩ := ih (t + 1) n lt2 st2 true (by omega) (by omega)
          rw [cnt_y e, bz_t] at e2
          refine ⟨lt3, st3, ?_⟩
          rw [bz_t]
          simp (disch := omega) only [f_X12_isRest_5, b_X12_isRest_5, b_X12_isRest_41, b_X12_isRest_42, hm, y1, y2, hv2, allF, p1, Bool.true_and, e2, neg_nI, lit_nI, nI_add, pk_mul, pk_sub, nI_clamp, inB_nI, gd_true, bnd_def, nI_leI, nI_ltI, nI_eq, nI_mI, mI_nI, nle_T, nle_F, nlt_T, nlt_F, neq_T, neq_F, ↓reduceIte, Nat.add_zero, Nat.zero_add, Nat.mul_zero, Nat.reduceAdd, Nat.reduceMul, Nat.reduceSub, ob1_e, ob2_e, ob3_e, ob4_e, ob6_e]
        · have p1 : pR0 R th ta c a b t = false := by unfold pR0; exact decide_eq_false (fun z => hv (z e))
          have hv2 : ga R ta c (some a) (some b) < ga R ta c (some t) (some b) := by
            rw [le32] at hv
            rw [lt32]
            omega
          obtain ⟨lt3, st3, e2⟩ := ih (t + 1) n lt2 st2 false (by omega) (by omega)
          rw [cnt_y e, bz_f] at e2
          refine ⟨lt3, st3, ?_⟩
          rw [bz_t]
          simp (disch := omega) only [f_X12_isRest_5, b_X12_isRest_5, b_X12_isRest_41, b_X12_isRest_42, hm, y1, y2, hv2, allF, p1, Bool.false_and, Bool.true_and, Bool.and_false, bz_f, e2, neg_nI, lit_nI, nI_add, pk_mul, pk_sub, nI_clamp, inB_nI, gd_true, bnd_def, nI_leI, nI_ltI, nI_eq, nI_mI, mI_nI, nle_T, nle_F, nlt_T, nlt_F, neq_T, neq_F, ↓reduceIte, Nat.add_zero, Nat.zero_add, Nat.mul_zero, Nat.reduceAdd, Nat.reduceMul, Nat.reduceSub, ob1_e, ob2_e, ob3_e, ob4_e, ob6_e]
    · have p1 : pR0 R th ta c a b t = true := by unfold pR0; exact decide_eq_true (fun z => absurd z e)
      obtain ⟨lt3, st3, e2⟩ := ih (t + 1) n lt st is (by omega) (by omega)
      rw [cnt_n e] at e2
      refine ⟨lt3, st3, ?_⟩
      rw [allF, p1, Bool.true_and]
      exact e2
theorem rest_c (hX : RiseX R lh ll l0 l1 l2 l3) (hY : RiseY R mh mc mv mk mt ms mu) (hG : G ≤ 6) (hh : ∀ g, g < G → mg (4 * g) = th g) (hal : ∀ g, g < G → mg (4 * g + 3) = ta g) (h01 : ∀ g, g < G → th g = nI 0 ∨ th g = nI 1) (hN : RN G M c m) {a b : Nat} (ha : a < G) (hb : b < G) (ea : th a = nI 0) (eb : th b = nI 1) (lt st lt2 st2 : Nat → Int32) : ∃ z lt' st' lt2' st2', f_X11_isRest (nI G) th ta lh ll l0 l1 l2 l3 c lt st (nI a) (nI b) = some (bz z, lt', st') ∧ f_X12_isRest (nI G) mh mc mv mk mt ms mu mg m lt2 st2 (nI (cnt th (nI 0) a)) (nI (cnt th (nI 1) b)) = some (bz z, lt2', st2') := by
  obtain ⟨lt1, st1, x1⟩ := gains_c hX hG (ta := ta) (c := c) (some a) (some b) (fun q z => by cases z; exact ha) (fun q z => by cases z; exact hb) lt st
  obtain ⟨lt3, st3, x2⟩ := gains_c hX hG (ta := ta) (c := c) (some b) (some a) (fun q z => by cases z; exact hb) (fun q z => by cases z; exact ha) lt1 st1
  simp only [gx] at x1 x2
  obtain ⟨lt', st', x3⟩ := restX_l (c := c) (ta := ta) hX hG h01 ha hb G 0 fu lt3 st3 (by omega) (by have := fu_le; omega)
  obtain ⟨lt4, st4, y1⟩ := restY0_l hY hG hh hal hN ha hb ea eb G 0 fu lt2 st2 true (by omega) (by have := fu_le; omega)
  obtain ⟨lt5, st5, y2⟩ := restY1_l hY hG hh hal hN ha hb ea eb G 0 fu lt4 st4 (allF (pR0 R th ta c a b) G 0) (by omega) (by have := fu_le; omega)
  have y1' : f_X12_isRest_5 (nI G) mh mc mv mk mt ms mu mg m fu lt2 st2 (nI (cnt th (nI 0) a)) (nI (cnt th (nI 1) b)) (nI 1) (nI 0) = f_X12_isRest_52 (nI G) mh mc mv mk mt ms mu mg m fu lt4 st4 (nI (cnt th (nI 0) a)) (nI (cnt th (nI 1) b)) (bz (allF (pR0 R th ta c a b) G 0)) (nI 0) := by
    rw [Bool.true_and] at y1
    exact y1
  have y2' : f_X12_isRest_52 (nI G) mh mc mv mk mt ms mu mg m fu lt4 st4 (nI (cnt th (nI 0) a)) (nI (cnt th (nI 1) b)) (bz (allF (pR0 R th ta c a b) G 0)) (nI 0) = some (bz (allF (pR0 R th ta c a b) G 0 && allF (pR1 R th ta c a b) G 0), lt5, st5) := y2
  refine ⟨allF (fun t => pR0 R th ta c a b t && pR1 R th ta c a b t) G 0, lt', st', lt5, st5, ?_, ?_⟩
  · rw [← x3]
    simp (disch := omega) only [f_X11_isRest, b_X11_isRest_0, x1, x2, neg_nI, lit_nI, nI_add, pk_mul, pk_sub, nI_clamp, inB_nI, gd_true, bnd_def, nI_leI, nI_ltI, nI_eq, nI_mI, mI_nI, nle_T, nle_F, nlt_T, nlt_F, neq_T, neq_F, ↓reduceIte, Nat.add_zero, Nat.zero_add, Nat.mul_zero, Nat.reduceAdd, Nat.reduceMul, Nat.reduceSub, ob1_e, ob2_e, ob3_e, ob4_e, ob6_e]
  · rw [allF_and G 0 (fun i _ _ => rfl), ← y2', ← y1']
    simp (disch := omega) only [f_X12_isRest, b_X12_isRest_0, neg_nI, lit_nI, nI_add, pk_mul, pk_sub, nI_clamp, inB_nI, gd_true, bnd_def, nI_leI, nI_ltI, nI_eq, nI_mI, mI_nI, nle_T, nle_F, nlt_T, nlt_F, neq_T, neq_F, ↓reduceIte, Nat.add_zero, Nat.zero_add, Nat.mul_zero, Nat.reduceAdd, Nat.reduceMul, Nat.reduceSub, ob1_e, ob2_e, ob3_e, ob4_e, ob6_e]
theorem rests_in (hX : RiseX R lh ll l0 l1 l2 l3) (hY : RiseY R mh mc mv mk mt ms mu) (hG : G ≤ 6) (hh : ∀ g, g < G → mg (4 * g) = th g) (hal : ∀ g, g < G → mg (4 * g + 3) = ta g) (h01 : ∀ g, g < G → th g = nI 0 ∨ th g = nI 1) (hN : RN G M c m) {i : Int32} {x : Nat} (hx : x < cnt th (nI 0) G) {kx ky : (Nat → Int32) → (Nat → Int32) → Int32 → Int32 → Int32 → Option (Int32 × (Nat → Int32) × (Nat → Int32))} : ∀ (j y n n' : Nat) (lt st lt2 st2 : Nat → Int32) (v : Int32), y + j = cnt th (nI 1) G → j < n → j < n' → (∃ r lt' st' lt2' st2', f_X11_rests_33 (nI G) th ta lh ll l0 l1 l2 l3 c kx n lt st i v (nI x) (nI y) = some (r, lt', st') ∧ f_X12_rests_30 (nI G) mh mc mv mk mt ms mu mg m ky n' lt2 st2 i v (nI x) (nI y) = some (r, lt2', st2')) ∨ (∃ v' lt' st' lt2' st2', f_X11_rests_33 (nI G) th ta lh ll l0 l1 l2 l3 c kx n lt st i v (nI x) (nI y) = kx lt' st' i v' (nI (x + 1)) ∧ f_X12_rests_30 (nI G) mh mc mv mk mt ms mu mg m ky n' lt2 st2 i v (nI x) (nI y) = ky lt2' st2' i v' (nI (x + 1))) := by
  have h1X := sizeX_c (th := th) (h := nI 1) hG
  have h1Y := sizeY_c (th := th) (mg := mg) (h := nI 1) hG hh
  have c0 := cnt_le th (nI 0) G
  have c1 := cnt_le th (nI 1) G
  intro j
  induction j with
  | zero =>
    intro y n n' lt st lt2 st2 v hy h1 h2
    obtain ⟨n, rfl⟩ : ∃ q, n = q + 1 := ⟨n - 1, by omega⟩
    obtain ⟨n', rfl⟩ : ∃ q, n' = q + 1 := ⟨n' - 1, by omega⟩
    refine Or.inr ⟨v, lt, st, lt2, st2, ?_, ?_⟩
    · simp (disch := omega) only [f_X11_rests_33, b_X11_rests_33, h1X, neg_nI, lit_nI, nI_add, pk_mul, pk_sub, nI_clamp, inB_nI, gd_true, bnd_def, nI_leI, nI_ltI, nI_eq, nI_mI, mI_nI, nle_T, nle_F, nlt_T, nlt_F, neq_T, neq_F, ↓reduceIte, Nat.add_zero, Nat.zero_add, Nat.mul_zero, Nat.reduceAdd, Nat.reduceMul, Nat.reduceSub, ob1_e, ob2_e, ob3_e, ob4_e, ob6_e]
    · simp (disch := omega) only [f_X12_rests_30, b_X12_rests_30, h1Y, neg_nI, lit_nI, nI_add, pk_mul, pk_sub, nI_clamp, inB_nI, gd_true, bnd_def, nI_leI, nI_ltI, nI_eq, nI_mI, mI_nI, nle_T, nle_F, nlt_T, nlt_F, neq_T, neq_F, ↓reduceIte, Nat.add_zero, Nat.zero_add, Nat.mul_zero, Nat.reduceAdd, Nat.reduceMul, Nat.reduceSub, ob1_e, ob2_e, ob3_e, ob4_e, ob6_e]
  | succ j ih =>
    intro y n n' lt st lt2 st2 v hy h1 h2
    obtain ⟨n, rfl⟩ : ∃ q, n = q + 1 := ⟨n - 1, by omega⟩
    obtain ⟨n', rfl⟩ : ∃ q, n' = q + 1 := ⟨n' - 1, by omega⟩
    obtain ⟨a, ha, ea, qa⟩ := nt_some G hx
    obtain ⟨b, hb, eb, qb⟩ := nt_some (x := y) (h := nI 1) (th := th) G (by omega)
    have na : f_X5_nth (nI G) th (nI 0) (nI x) = some (nI a) := by rw [nthX_c hG, ← qa, nt_at hG ha ea]
    have nb : f_X5_nth (nI G) th (nI 1) (nI y) = some (nI b) := by rw [nthX_c hG, ← qb, nt_at hG hb eb]
    obtain ⟨z, lt1, st1, lt3, st3, e1, e2⟩ := rest_c hX hY hG hh hal h01 hN ha hb ea eb lt st lt2 st2
    rw [qa, qb] at e2
    cases z with
    | false =>
      rw [bz_f] at e1 e2
      rcases ih (y + 1) n n' lt1 st1 lt3 st3 v (by omega) (by omega) (by omega) with ⟨r, lt', st', lt2', st2', g1, g2⟩ | ⟨v', lt', st', lt2', st2', g1, g2⟩
      · refine Or.inl ⟨r, lt', st', lt2', st2', ?_, ?_⟩
        · rw [← g1]
          simp (disch := omega) only [f_X11_rests_33, f_X11_rests, b_X11_rests_88, b_X11_rests_33, b_X11_rests_18, b_X11_rests_0, h1X, na, nb, e1, neg_nI, lit_nI, nI_add, pk_mul, pk_sub, nI_clamp, inB_nI, gd_true, bnd_def, nI_leI, nI_ltI, nI_eq, nI_mI, mI_nI, nle_T, nle_F, nlt_T, nlt_F, neq_T, neq_F, ↓reduceIte, Nat.add_zero, Nat.zero_add, Nat.mul_zero, Nat.reduceAdd, Nat.reduceMul, Nat.reduceSub, ob1_e, ob2_e, ob3_e, ob4_e, ob6_e]
        · rw [← g2]
          simp (disch := omega) only [f_X12_rests_30, f_X12_rests, b_X12_rests_66, b_X12_rests_30, b_X12_rests_18, b_X12_rests_0, h1Y, e2, neg_nI, lit_nI, nI_add, pk_mul, pk_sub, nI_clamp, inB_nI, gd_true, bnd_def, nI_leI, nI_ltI, nI_eq, nI_mI, mI_nI, nle_T, nle_F, nlt_T, nlt_F, neq_T, neq_F, ↓reduceIte, Nat.add_zero, Nat.zero_add, Nat.mul_zero, Nat.reduceAdd, Nat.reduceMul, Nat.reduceSub, ob1_e, ob2_e, ob3_e, ob4_e, ob6_e]
      · refine Or.inr ⟨v', lt', st', lt2', st2', ?_, ?_⟩
        · rw [← g1]
          simp (disch := omega) only [f_X11_rests_33, f_X11_rests, b_X11_rests_88, b_X11_rests_33, b_X11_rests_18, b_X11_rests_0, h1X, na, nb, e1, neg_nI, lit_nI, nI_add, pk_mul, pk_sub, nI_clamp, inB_nI, gd_true, bnd_def, nI_leI, nI_ltI, nI_eq, nI_mI, mI_nI, nle_T, nle_F, nlt_T, nlt_F, neq_T, neq_F, ↓reduceIte, Nat.add_zero, Nat.zero_add, Nat.mul_zero, Nat.reduceAdd, Nat.reduceMul, Nat.reduceSub, ob1_e, ob2_e, ob3_e, ob4_e, ob6_e]
        · rw [← g2]
          simp (disch := omega) only [f_X12_rests_30, f_X12_rests, b_X12_rests_66, b_X12_rests_30, b_X12_rests_18, b_X12_rests_0, h1Y, e2, neg_nI, lit_nI, nI_add, pk_mul, pk_sub, nI_clamp, inB_nI, gd_true, bnd_def, nI_leI, nI_ltI, nI_eq, nI_mI, mI_nI, nle_T, nle_F, nlt_T, nlt_F, neq_T, neq_F, ↓reduceIte, Nat.add_zero, Nat.zero_add, Nat.mul_zero, Nat.reduceAdd, Nat.reduceMul, Nat.reduceSub, ob1_e, ob2_e, ob3_e, ob4_e, ob6_e]
    | true =>
      rw [bz_t] at e1 e2
      by_cases hv : v = i
      · refine Or.inl ⟨nI (10 * x + y), lt1, st1, lt3, st3, ?_, ?_⟩
        · simp (disch := omega) only [f_X11_rests_33, f_X11_rests, b_X11_rests_88, b_X11_rests_33, b_X11_rests_18, b_X11_rests_0, h1X, na, nb, e1, hv, neg_nI, lit_nI, nI_add, pk_mul, pk_sub, nI_clamp, inB_nI, gd_true, bnd_def, nI_leI, nI_ltI, nI_eq, nI_mI, mI_nI, nle_T, nle_F, nlt_T, nlt_F, neq_T, neq_F, ↓reduceIte, Nat.add_zero, Nat.zero_add, Nat.mul_zero, Nat.reduceAdd, Nat.reduceMul, Nat.reduceSub, ob1_e, ob2_e, ob3_e, ob4_e, ob6_e]
        · simp (disch := omega) only [f_X12_rests_30, f_X12_rests, b_X12_rests_66, b_X12_rests_30, b_X12_rests_18, b_X12_rests_0, h1Y, e2, hv, neg_nI, lit_nI, nI_add, pk_mul, pk_sub, nI_clamp, inB_nI, gd_true, bnd_def, nI_leI, nI_ltI, nI_eq, nI_mI, mI_nI, nle_T, nle_F, nlt_T, nlt_F, neq_T, neq_F, ↓reduceIte, Nat.add_zero, Nat.zero_add, Nat.mul_zero, Nat.reduceAdd, Nat.reduceMul, Nat.reduceSub, ob1_e, ob2_e, ob3_e, ob4_e, ob6_e]
      · rcases ih (y + 1) n n' lt1 st1 lt3 st3 (v + nI 1) (by omega) (by omega) (by omega) with ⟨r, lt', st', lt2', st2', g1, g2⟩ | ⟨v', lt', st', lt2', st2', g1, g2⟩
        · refine Or.inl ⟨r, lt', st', lt2', st2', ?_, ?_⟩
          · rw [← g1]
            simp (disch := omega) only [f_X11_rests_33, f_X11_rests, b_X11_rests_88, b_X11_rests_33, b_X11_rests_18, b_X11_rests_0, h1X, na, nb, e1, hv, neg_nI, lit_nI, nI_add, pk_mul, pk_sub, nI_clamp, inB_nI, gd_true, bnd_def, nI_leI, nI_ltI, nI_eq, nI_mI, mI_nI, nle_T, nle_F, nlt_T, nlt_F, neq_T, neq_F, ↓reduceIte, Nat.add_zero, Nat.zero_add, Nat.mul_zero, Nat.reduceAdd, Nat.reduceMul, Nat.reduceSub, ob1_e, ob2_e, ob3_e, ob4_e, ob6_e]
          · rw [← g2]
            simp (disch := omega) only [f_X12_rests_30, f_X12_rests, b_X12_rests_66, b_X12_rests_30, b_X12_rests_18, b_X12_rests_0, h1Y, e2, hv, neg_nI, lit_nI, nI_add, pk_mul, pk_sub, nI_clamp, inB_nI, gd_true, bnd_def, nI_leI, nI_ltI, nI_eq, nI_mI, mI_nI, nle_T, nle_F, nlt_T, nlt_F, neq_T, neq_F, ↓reduceIte, Nat.add_zero, Nat.zero_add, Nat.mul_zero, Nat.reduceAdd, Nat.reduceMul, Nat.reduceSub, ob1_e, ob2_e, ob3_e, ob4_e, ob6_e]
        · refine Or.inr ⟨v', lt', st', lt2', st2', ?_, ?_⟩
          · rw [← g1]
            simp (disch := omega) only [f_X11_rests_33, f_X11_rests, b_X11_rests_88, b_X11_rests_33, b_X11_rests_18, b_X11_rests_0, h1X, na, nb, e1, hv, neg_nI, lit_nI, nI_add, pk_mul, pk_sub, nI_clamp, inB_nI, gd_true, bnd_def, nI_leI, nI_ltI, nI_eq, nI_mI, mI_nI, nle_T, nle_F, nlt_T, nlt_F, neq_T, neq_F, ↓reduceIte, Nat.add_zero, Nat.zero_add, Nat.mul_zero, Nat.reduceAdd, Nat.reduceMul, Nat.reduceSub, ob1_e, ob2_e, ob3_e, ob4_e, ob6_e]
          · rw [← g2]
            simp (disch := omega) only [f_X12_rests_30, f_X12_rests, b_X12_rests_66, b_X12_rests_30, b_X12_rests_18, b_X12_rests_0, h1Y, e2, hv, neg_nI, lit_nI, nI_add, pk_mul, pk_sub, nI_clamp, inB_nI, gd_true, bnd_def, nI_leI, nI_ltI, nI_eq, nI_mI, mI_nI, nle_T, nle_F, nlt_T, nlt_F, neq_T, neq_F, ↓reduceIte, Nat.add_zero, Nat.zero_add, Nat.mul_zero, Nat.reduceAdd, Nat.reduceMul, Nat.reduceSub, ob1_e, ob2_e, ob3_e, ob4_e, ob6_e]
theorem rests_out (hX : RiseX R lh ll l0 l1 l2 l3) (hY : RiseY R mh mc mv mk mt ms mu) (hG : G ≤ 6) (hh : ∀ g, g < G → mg (4 * g) = th g) (hal : ∀ g, g < G → mg (4 * g + 3) = ta g) (h01 : ∀ g, g < G → th g = nI 0 ∨ th g = nI 1) (hN : RN G M c m) {i : Int32} : ∀ (j x n n' : Nat) (lt st lt2 st2 : Nat → Int32) (v : Int32), x + j = cnt th (nI 0) G → j < n → j < n' → ∃ r lt' st' lt2' st2', f_X11_rests_18 (nI G) th ta lh ll l0 l1 l2 l3 c n lt st i v (nI x) = some (r, lt', st') ∧ f_X12_rests_18 (nI G) mh mc mv mk mt ms mu mg m n' lt2 st2 i v (nI x) = some (r, lt2', st2') := by
  have h0X := sizeX_c (th := th) (h := nI 0) hG
  have h0Y := sizeY_c (th := th) (mg := mg) (h := nI 0) hG hh
  have c0 := cnt_le th (nI 0) G
  have c1 := cnt_le th (nI 1) G
  intro j
  induction j with
  | zero =>
    intro x n n' lt st lt2 st2 v hx h1 h2
    obtain ⟨n, rfl⟩ : ∃ q, n = q + 1 := ⟨n - 1, by omega⟩
    obtain ⟨n', rfl⟩ : ∃ q, n' = q + 1 := ⟨n' - 1, by omega⟩
    by_cases hi : i = mI 1
    · refine ⟨v, lt, st, lt2, st2, ?_, ?_⟩
      · simp (disch := omega) only [f_X11_rests_18, b_X11_rests_18, h0X, hi, neg_nI, lit_nI, nI_add, pk_mul, pk_sub, nI_clamp, inB_nI, gd_true, bnd_def, nI_leI, nI_ltI, nI_eq, nI_mI, mI_nI, nle_T, nle_F, nlt_T, nlt_F, neq_T, neq_F, ↓reduceIte, Nat.add_zero, Nat.zero_add, Nat.mul_zero, Nat.reduceAdd, Nat.reduceMul, Nat.reduceSub, ob1_e, ob2_e, ob3_e, ob4_e, ob6_e]
      · simp (disch := omega) only [f_X12_rests_18, b_X12_rests_18, h0Y, hi, neg_nI, lit_nI, nI_add, pk_mul, pk_sub, nI_clamp, inB_nI, gd_true, bnd_def, nI_leI, nI_ltI, nI_eq, nI_mI, mI_nI, nle_T, nle_F, nlt_T, nlt_F, neq_T, neq_F, ↓reduceIte, Nat.add_zero, Nat.zero_add, Nat.mul_zero, Nat.reduceAdd, Nat.reduceMul, Nat.reduceSub, ob1_e, ob2_e, ob3_e, ob4_e, ob6_e]
    · refine ⟨mI 1, lt, st, lt2, st2, ?_, ?_⟩
      · simp (disch := omega) only [f_X11_rests_18, b_X11_rests_18, h0X, hi, neg_nI, lit_nI, nI_add, pk_mul, pk_sub, nI_clamp, inB_nI, gd_true, bnd_def, nI_leI, nI_ltI, nI_eq, nI_mI, mI_nI, nle_T, nle_F, nlt_T, nlt_F, neq_T, neq_F, ↓reduceIte, Nat.add_zero, Nat.zero_add, Nat.mul_zero, Nat.reduceAdd, Nat.reduceMul, Nat.reduceSub, ob1_e, ob2_e, ob3_e, ob4_e, ob6_e]
      · simp (disch := omega) only [f_X12_rests_18, b_X12_rests_18, h0Y, hi, neg_nI, lit_nI, nI_add, pk_mul, pk_sub, nI_clamp, inB_nI, gd_true, bnd_def, nI_leI, nI_ltI, nI_eq, nI_mI, mI_nI, nle_T, nle_F, nlt_T, nlt_F, neq_T, neq_F, ↓reduceIte, Nat.add_zero, Nat.zero_add, Nat.mul_zero, Nat.reduceAdd, Nat.reduceMul, Nat.reduceSub, ob1_e, ob2_e, ob3_e, ob4_e, ob6_e]
  | succ j ih =>
    intro x n n' lt st lt2 st2 v hx h1 h2
    obtain ⟨n, rfl⟩ : ∃ q, n = q + 1 := ⟨n - 1, by omega⟩
    obtain ⟨n', rfl⟩ : ∃ q, n' = q + 1 := ⟨n' - 1, by omega⟩
    rcases rests_in hX hY hG hh hal h01 hN (i := i) (x := x) (by omega) (kx := f_X11_rests_18 (nI G) th ta lh ll l0 l1 l2 l3 c n) (ky := f_X12_rests_18 (nI G) mh mc mv mk mt ms mu mg m n') (cnt th (nI 1) G) 0 fu fu lt st lt2 st2 v (by omega) (by have := fu_le; omega) (by have := fu_le; omega) with ⟨r, lt', st', lt2', st2', g1, g2⟩ | ⟨v', lt1, st1, lt3, st3, g1, g2⟩
    · refine ⟨r, lt', st', lt2', st2', ?_, ?_⟩
      · rw [← g1]
        simp (disch := omega) only [f_X11_rests_18, b_X11_rests_18, h0X, neg_nI, lit_nI, nI_add, pk_mul, pk_sub, nI_clamp, inB_nI, gd_true, bnd_def, nI_leI, nI_ltI, nI_eq, nI_mI, mI_nI, nle_T, nle_F, nlt_T, nlt_F, neq_T, neq_F, ↓reduceIte, Nat.add_zero, Nat.zero_add, Nat.mul_zero, Nat.reduceAdd, Nat.reduceMul, Nat.reduceSub, ob1_e, ob2_e, ob3_e, ob4_e, ob6_e]
      · rw [← g2]
        simp (disch := omega) only [f_X12_rests_18, b_X12_rests_18, h0Y, neg_nI, lit_nI, nI_add, pk_mul, pk_sub, nI_clamp, inB_nI, gd_true, bnd_def, nI_leI, nI_ltI, nI_eq, nI_mI, mI_nI, nle_T, nle_F, nlt_T, nlt_F, neq_T, neq_F, ↓reduceIte, Nat.add_zero, Nat.zero_add, Nat.mul_zero, Nat.reduceAdd, Nat.reduceMul, Nat.reduceSub, ob1_e, ob2_e, ob3_e, ob4_e, ob6_e]
    · obtain ⟨r, lt', st', lt2', st2', e1, e2⟩ := ih (x + 1) n n' lt1 st1 lt3 st3 v' (by omega) (by omega) (by omega)
      refine ⟨r, lt', st', lt2', st2', ?_, ?_⟩
      · rw [← e1, ← g1]
        simp (disch := omega) only [f_X11_rests_18, b_X11_rests_18, h0X, neg_nI, lit_nI, nI_add, pk_mul, pk_sub, nI_clamp, inB_nI, gd_true, bnd_def, nI_leI, nI_ltI, nI_eq, nI_mI, mI_nI, nle_T, nle_F, nlt_T, nlt_F, neq_T, neq_F, ↓reduceIte, Nat.add_zero, Nat.zero_add, Nat.mul_zero, Nat.reduceAdd, Nat.reduceMul, Nat.reduceSub, ob1_e, ob2_e, ob3_e, ob4_e, ob6_e]
      · rw [← e2, ← g2]
        simp (disch := omega) only [f_X12_rests_18, b_X12_rests_18, h0Y, neg_nI, lit_nI, nI_add, pk_mul, pk_sub, nI_clamp, inB_nI, gd_true, bnd_def, nI_leI, nI_ltI, nI_eq, nI_mI, mI_nI, nle_T, nle_F, nlt_T, nlt_F, neq_T, neq_F, ↓reduceIte, Nat.add_zero, Nat.zero_add, Nat.mul_zero, Nat.reduceAdd, Nat.reduceMul, Nat.reduceSub, ob1_e, ob2_e, ob3_e, ob4_e, ob6_e]
theorem s_rests (hX : RiseX R lh ll l0 l1 l2 l3) (hY : RiseY R mh mc mv mk mt ms mu) (hG : G ≤ 6) (hh : ∀ g, g < G → mg (4 * g) = th g) (hal : ∀ g, g < G → mg (4 * g + 3) = ta g) (h01 : ∀ g, g < G → th g = nI 0 ∨ th g = nI 1) (hN : RN G M c m) (lt st lt2 st2 : Nat → Int32) (i : Int32) : ∃ r lt' st' lt2' st2', f_X11_rests (nI G) th ta lh ll l0 l1 l2 l3 c lt st i = some (r, lt', st') ∧ f_X12_rests (nI G) mh mc mv mk mt ms mu mg m lt2 st2 i = some (r, lt2', st2') := by
  have c0 := cnt_le th (nI 0) G
  by_cases g0 : G = 0
  · refine ⟨mI 1, lt, st, lt2, st2, ?_, ?_⟩
    · simp (disch := omega) only [f_X11_rests, b_X11_rests_0, noPeace_y g0, neg_nI, lit_nI, nI_add, pk_mul, pk_sub, nI_clamp, inB_nI, gd_true, bnd_def, nI_leI, nI_ltI, nI_eq, nI_mI, mI_nI, nle_T, nle_F, nlt_T, nlt_F, neq_T, neq_F, ↓reduceIte, Nat.add_zero, Nat.zero_add, Nat.mul_zero, Nat.reduceAdd, Nat.reduceMul, Nat.reduceSub, ob1_e, ob2_e, ob3_e, ob4_e, ob6_e]
    · simp (disch := omega) only [f_X12_rests, b_X12_rests_0, neg_nI, lit_nI, nI_add, pk_mul, pk_sub, nI_clamp, inB_nI, gd_true, bnd_def, nI_leI, nI_ltI, nI_eq, nI_mI, mI_nI, nle_T, nle_F, nlt_T, nlt_F, neq_T, neq_F, ↓reduceIte, Nat.add_zero, Nat.zero_add, Nat.mul_zero, Nat.reduceAdd, Nat.reduceMul, Nat.reduceSub, ob1_e, ob2_e, ob3_e, ob4_e, ob6_e]
  · by_cases hi : mI 1 ≤ i
    · obtain ⟨r, lt', st', lt2', st2', e1, e2⟩ := rests_out hX hY hG hh hal h01 hN (i := i) (cnt th (nI 0) G) 0 fu fu lt st lt2 st2 (nI 0) (by omega) (by have := fu_le; omega) (by have := fu_le; omega)
      refine ⟨r, lt', st', lt2', st2', ?_, ?_⟩
      · rw [← e1]
        simp (disch := omega) only [f_X11_rests, b_X11_rests_0, noPeace_n, hi, neg_nI, lit_nI, nI_add, pk_mul, pk_sub, nI_clamp, inB_nI, gd_true, bnd_def, nI_leI, nI_ltI, nI_eq, nI_mI, mI_nI, nle_T, nle_F, nlt_T, nlt_F, neq_T, neq_F, ↓reduceIte, Nat.add_zero, Nat.zero_add, Nat.mul_zero, Nat.reduceAdd, Nat.reduceMul, Nat.reduceSub, ob1_e, ob2_e, ob3_e, ob4_e, ob6_e]
      · rw [← e2]
        simp (disch := omega) only [f_X12_rests, b_X12_rests_0, hi, neg_nI, lit_nI, nI_add, pk_mul, pk_sub, nI_clamp, inB_nI, gd_true, bnd_def, nI_leI, nI_ltI, nI_eq, nI_mI, mI_nI, nle_T, nle_F, nlt_T, nlt_F, neq_T, neq_F, ↓reduceIte, Nat.add_zero, Nat.zero_add, Nat.mul_zero, Nat.reduceAdd, Nat.reduceMul, Nat.reduceSub, ob1_e, ob2_e, ob3_e, ob4_e, ob6_e]
    · refine ⟨mI 1, lt, st, lt2, st2, ?_, ?_⟩
      · simp (disch := omega) only [f_X11_rests, b_X11_rests_0, noPeace_n, hi, neg_nI, lit_nI, nI_add, pk_mul, pk_sub, nI_clamp, inB_nI, gd_true, bnd_def, nI_leI, nI_ltI, nI_eq, nI_mI, mI_nI, nle_T, nle_F, nlt_T, nlt_F, neq_T, neq_F, ↓reduceIte, Nat.add_zero, Nat.zero_add, Nat.mul_zero, Nat.reduceAdd, Nat.reduceMul, Nat.reduceSub, ob1_e, ob2_e, ob3_e, ob4_e, ob6_e]
      · simp (disch := omega) only [f_X12_rests, b_X12_rests_0, hi, neg_nI, lit_nI, nI_add, pk_mul, pk_sub, nI_clamp, inB_nI, gd_true, bnd_def, nI_leI, nI_ltI, nI_eq, nI_mI, mI_nI, nle_T, nle_F, nlt_T, nlt_F, neq_T, neq_F, ↓reduceIte, Nat.add_zero, Nat.zero_add, Nat.mul_zero, Nat.reduceAdd, Nat.reduceMul, Nat.reduceSub, ob1_e, ob2_e, ob3_e, ob4_e, ob6_e]
end RT
