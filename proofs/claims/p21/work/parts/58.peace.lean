/-! a peace is read by both -/
def in1 (v : Int32) (k : Nat) : Prop := ∃ x, x ≤ k ∧ v = nI x
def RP (G M : Nat) (pd cn : Int32) (ho fe st af we ne rr rg rm : Nat → Int32) : Prop := G ≤ 6 ∧ M ≤ 5 ∧ (rr 0 = pd ∧ in1 pd 9) ∧ (rr 1 = cn ∧ in1 cn 99) ∧ (∀ g, g < G → (rg (4 * g) = ho g ∧ in1 (ho g) 1) ∧ (rg (4 * g + 1) = fe g ∧ in1 (fe g) 9) ∧ (rg (4 * g + 2) = st g ∧ in1 (st g) 9) ∧ (rg (4 * g + 3) = af g ∧ in1 (af g) 3)) ∧ (∀ m, m < M → (rm (2 * m) = we m ∧ in1 (we m) 9) ∧ (rm (2 * m + 1) = ne m ∧ in1 (ne m) 60))
def wm (ho : Nat → Int32) (k : Nat) : Nat := (if 0 < cnt ho (nI 0) k then 1 else 0) + (if 0 < cnt ho (nI 1) k then 2 else 0)
theorem wm_lt (ho : Nat → Int32) (k : Nat) : wm ho k < 4 := by unfold wm; split <;> split <;> omega
theorem wm_s {ho : Nat → Int32} {k x : Nat} (hx : x ≤ 1) (e : ho k = nI x) : wm ho (k + 1) = (wm ho k ||| 2 ^ x) := by
  unfold wm
  obtain rfl | rfl : x = 0 ∨ x = 1 := by omega
  · rw [cnt_y e, cnt_n (h := nI 1) (by rw [e]; decide), if_pos (by omega)]
    by_cases q1 : 0 < cnt ho (nI 0) k <;> by_cases q2 : 0 < cnt ho (nI 1) k <;> simp only [q1, q2, ↓reduceIte] <;> rfl
  · rw [cnt_y e, cnt_n (h := nI 0) (by rw [e]; decide), if_pos (show 0 < cnt ho (nI 1) k + 1 by omega)]
    by_cases q1 : 0 < cnt ho (nI 0) k <;> by_cases q2 : 0 < cnt ho (nI 1) k <;> simp only [q1, q2, ↓reduceIte] <;> rfl
theorem wm_3 (ho : Nat → Int32) (k : Nat) : wm ho k = 3 ↔ 0 < cnt ho (nI 0) k ∧ 0 < cnt ho (nI 1) k := by
  unfold wm
  by_cases q1 : 0 < cnt ho (nI 0) k <;> by_cases q2 : 0 < cnt ho (nI 1) k <;> simp [q1, q2]
theorem wh_l {G : Nat} {ho rg : Nat → Int32} (hG : G ≤ 6) (h : ∀ g, g < G → rg (4 * g) = ho g ∧ in1 (ho g) 1) : ∀ (j k n : Nat), k + j = G → j < n → f_X12_isWhole_4 (nI G) rg n (nI (wm ho k)) (nI k) = some (if 0 < cnt ho (nI 0) G ∧ 0 < cnt ho (nI 1) G then nI 1 else nI 0)
  | 0, k, n + 1, hk, hn => by
    obtain rfl : k = G := by omega
    have := wm_lt ho k
    by_cases q : 0 < cnt ho (nI 0) k ∧ 0 < cnt ho (nI 1) k
    · have e := (wm_3 ho k).mpr q
      simp (disch := omega) only [f_X12_isWhole_4, b_X12_isWhole_4, e, if_pos q, and_self, neg_nI, lit_nI, nI_add, pk_mul, pk_sub, nI_clamp, inB_nI, gd_true, bnd_def, nI_leI, nI_ltI, nI_eq, nI_mI, mI_nI, nle_T, nle_F, nlt_T, nlt_F, neq_T, neq_F, ↓reduceIte, Nat.add_zero, Nat.zero_add, Nat.mul_zero, Nat.reduceAdd, Nat.reduceMul, Nat.reduceSub]
    · have e : wm ho k ≠ 3 := fun e => q ((wm_3 ho k).mp e)
      simp (disch := omega) only [f_X12_isWhole_4, b_X12_isWhole_4, if_neg q, neg_nI, lit_nI, nI_add, pk_mul, pk_sub, nI_clamp, inB_nI, gd_true, bnd_def, nI_leI, nI_ltI, nI_eq, nI_mI, mI_nI, nle_T, nle_F, nlt_T, nlt_F, neq_T, neq_F, ↓reduceIte, Nat.add_zero, Nat.zero_add, Nat.mul_zero, Nat.reduceAdd, Nat.reduceMul, Nat.reduceSub]
  | j + 1, k, n + 1, hk, hn => by
    obtain ⟨e1, x, hx, e2⟩ := h k (by omega)
    have ih := wh_l hG h j (k + 1) n (by omega) (by omega)
    rw [wm_s hx e2] at ih
    rw [← ih]
    have := wm_lt ho k
    have e3 := or_c (wm ho k) (by omega) x (by omega)
    have e4 : rg (4 * k) = nI x := by rw [e1, e2]
    rw [show ∀ a b, f_X12_isWhole_4 (nI G) rg (n + 1) a b = b_X12_isWhole_4 (nI G) rg (f_X12_isWhole_4 (nI G) rg n) a b from fun _ _ => rfl]
    simp (disch := omega) only [b_X12_isWhole_4, e3, e4, neg_nI, lit_nI, nI_add, pk_mul, pk_sub, nI_clamp, inB_nI, gd_true, bnd_def, nI_leI, nI_ltI, nI_eq, nI_mI, mI_nI, nle_T, nle_F, nlt_T, nlt_F, neq_T, neq_F, ↓reduceIte, Nat.add_zero, Nat.zero_add, Nat.mul_zero, Nat.reduceAdd, Nat.reduceMul, Nat.reduceSub]
theorem wh_c {G : Nat} {ho rg : Nat → Int32} (hG : G ≤ 6) (h : ∀ g, g < G → rg (4 * g) = ho g ∧ in1 (ho g) 1) : f_X12_isWhole (nI G) rg = some (if 0 < cnt ho (nI 0) G ∧ 0 < cnt ho (nI 1) G then nI 1 else nI 0) := wh_l hG h G 0 fu (by omega) (by have := fu_le; omega)
abbrev CT : Type := Int32 × Int32 × Int32 × (Nat → Int32) × Int32 × Int32 × Int32 × Int32 × (Nat → Int32) × (Nat → Int32) × (Nat → Int32) × (Nat → Int32) × (Nat → Int32) × (Nat → Int32)
abbrev MT : Type := Int32 × Int32 × Int32 × Int32 × Int32 × (Nat → Int32) × (Nat → Int32) × (Nat → Int32)
def POg (n : Nat) (x : Option CT) (y : Option MT) : Prop := ∃ (ru : Nat) (vl : Nat → Int32) (G M : Nat) (pd cn : Int32) (ho fe st af we ne rr rg rm : Nat → Int32), x = some (nI 1, nI n, nI ru, vl, nI G, nI M, pd, cn, ho, fe, st, af, we, ne) ∧ y = some (mI 1, nI n, mI 1, nI G, nI M, rr, rg, rm) ∧ ru ≤ 1 ∧ RP G M pd cn ho fe st af we ne rr rg rm ∧ 0 < cnt ho (nI 0) G ∧ 0 < cnt ho (nI 1) G
def POb (n : Nat) (x : Option CT) (y : Option MT) : Prop := ∃ (a ru : Nat) (vl : Nat → Int32) (G M pd cn : Int32) (ho fe st af we ne : Nat → Int32) (G' M' : Int32) (rr rg rm : Nat → Int32), a ≤ n ∧ ru ≤ 1 ∧ x = some (nI 0, nI a, nI ru, vl, G, M, pd, cn, ho, fe, st, af, we, ne) ∧ y = some (nI a, nI a, nI a, G', M', rr, rg, rm)
def PO (n : Nat) (x : Option CT) (y : Option MT) : Prop := POg n x y ∨ POb n x y
section PE
variable {n : Nat} {t u plT pmT puT : Nat → Int32}
/-- a fault: both end -/
theorem pe_b (hn : n ≤ 240) {a2 : Nat} {wr G M : Int32} {rr rg rm : Nat → Int32} {v1 : Int32} {ky : Nat} (ha : a2 ≤ n) (hb : BadEnd n u a2 wr) : b_X12_readPeace_213 (nI n) u (f_X12_readPeace_49 (nI n) u (ky + 1)) (nI a2) wr G M rr rg rm v1 = some (nI a2, nI a2, nI a2, G, M, rr, rg, rm) := by
  rcases hb with rfl | ⟨rfl, b, b0, b1, b2, e⟩
  · simp (disch := omega) only [b_X12_readPeace_213, b_X12_readPeace_234, b_X12_readPeace_235, b_X12_readPeace_250, f_X12_readPeace_49, b_X12_readPeace_49, b_X12_readPeace_257, b_X12_readPeace_284, neg_nI, lit_nI, nI_add, pk_mul, pk_sub, nI_clamp, inB_nI, gd_true, bnd_def, nI_leI, nI_ltI, nI_eq, nI_mI, mI_nI, nle_T, nle_F, nlt_T, nlt_F, neq_T, neq_F, ↓reduceIte, Nat.add_zero, Nat.zero_add, Nat.mul_zero, Nat.reduceAdd, Nat.reduceMul, Nat.reduceSub, ob1_e, ob2_e, ob3_e, ob4_e, ob6_e]
  · simp (disch := omega) only [b_X12_readPeace_213, b_X12_readPeace_234, b_X12_readPeace_235, b_X12_readPeace_250, f_X12_readPeace_49, b_X12_readPeace_49, b_X12_readPeace_257, b_X12_readPeace_284, b_X12_readPeace_280, e, bad_n, neg_nI, lit_nI, nI_add, pk_mul, pk_sub, nI_clamp, inB_nI, gd_true, bnd_def, nI_leI, nI_ltI, nI_eq, nI_mI, mI_nI, nle_T, nle_F, nlt_T, nlt_F, neq_T, neq_F, ↓reduceIte, Nat.add_zero, Nat.zero_add, Nat.mul_zero, Nat.reduceAdd, Nat.reduceMul, Nat.reduceSub, ob1_e, ob2_e, ob3_e, ob4_e, ob6_e]
theorem pe_t (hn : n ≤ 240) (h : RT n t u) {a cl a2 ru G M : Nat} {vl : Nat → Int32} {pd cn : Int32} {ho fe st af we ne rr rg rm : Nat → Int32} {k49 : Int32 → Int32 → Int32 → Int32 → (Nat → Int32) → (Nat → Int32) → (Nat → Int32) → Int32 → Int32 → Option MT} {x0 : Int32} {kx ky : Nat}
   (hc : cl ≤ a) (ha : a ≤ a2) (ha2 : a2 ≤ n) (hru : ru ≤ 1) (hR : RP G M pd cn ho fe st af we ne rr rg rm)
   (ih : ∀ a3, a2 < a3 → a3 ≤ n → PO n (f_X6_readsAll_55 (nI n) t plT pmT puT kx (nI a3) (nI ru) vl (nI G) (nI M) pd cn ho fe st af we ne (nI (cl + 1))) (f_X12_readPeace_49 (nI n) u (ky + 1) (nI a3) (mI 1) (nI G) (nI M) rr rg rm (nI ru) (nI 1))) :
   PO n (ob2 (f_X10_sign (nI n) t (nI a2)) fun r_16 tape_at_17 =>
      if r_16 = (-1 : Int32) then
        ob1 (f_X5_sizeOf (nI G) ho (0 : Int32)) fun r_23 =>
        if r_23 ≤ (0 : Int32) then
          some ((0 : Int32), tape_at_17, nI ru, vl, nI G, nI M, pd, cn, ho, fe, st, af, we, ne)
        else
          ob1 (f_X5_sizeOf (nI G) ho (1 : Int32)) fun r_25 =>
          if r_25 ≤ (0 : Int32) then
            some ((0 : Int32), tape_at_17, nI ru, vl, nI G, nI M, pd, cn, ho, fe, st, af, we, ne)
          else
            some ((1 : Int32), tape_at_17, nI ru, vl, nI G, nI M, pd, cn, ho, fe, st, af, we, ne)
      else
        ob2 (f_X10_take (nI n) t tape_at_17 (59 : Int32)) fun r_19 tape_at_20 =>
        if r_19 = (0 : Int32) then
          some ((0 : Int32), tape_at_20, nI ru, vl, nI G, nI M, pd, cn, ho, fe, st, af, we, ne)
        else
          bnd (nI cl + (1 : Int32)) fun v1_22 =>
          f_X6_readsAll_55 (nI n) t plT pmT puT kx tape_at_20 (nI ru) vl (nI G) (nI M) pd cn ho fe st af we ne v1_22)
     (b_X12_readPeace_213 (nI n) u (f_X12_readPeace_49 (nI n) u (ky + 1)) (nI a2) (mI 1) (nI G) (nI M) rr rg rm (nI ru)) := by
  obtain ⟨a3, c, s1, s2, s3, s4, s5, s6, s7⟩ := sg_c hn h ha2
  have hG := hR.1
  have l0 := cnt_le ho (nI 0) G
  have l1 := cnt_le ho (nI 1) G
  rcases s7 with ⟨ec, en⟩ | ⟨b, b0, b1, b2, ec, hb, et, eu⟩
  · subst ec
    subst en
    have w := wh_c hG (fun g hg => (hR.2.2.2.2.1 g hg).1)
    by_cases q : 0 < cnt ho (nI 0) G ∧ 0 < cnt ho (nI 1) G
    · rw [if_pos q] at w
      obtain ⟨q0, q1⟩ := q
      refine Or.inl ⟨ru, vl, G, M, pd, cn, ho, fe, st, af, we, ne, rr, rg, rm, ?_, ?_, hru, hR, q0, q1⟩
      · simp (disch := omega) only [s3, sizeX_c hG, neg_nI, lit_nI, nI_add, pk_mul, pk_sub, nI_clamp, inB_nI, gd_true, bnd_def, nI_leI, nI_ltI, nI_eq, nI_mI, mI_nI, nle_T, nle_F, nlt_T, nlt_F, neq_T, neq_F, ↓reduceIte, Nat.add_zero, Nat.zero_add, Nat.mul_zero, Nat.reduceAdd, Nat.reduceMul, Nat.reduceSub, ob1_e, ob2_e, ob3_e, ob4_e, ob6_e]
      · simp (disch := omega) only [b_X12_readPeace_213, b_X12_readPeace_234, b_X12_readPeace_235, b_X12_readPeace_250, f_X12_readPeace_49, b_X12_readPeace_49, b_X12_readPeace_257, b_X12_readPeace_284, b_X12_readPeace_280, s4, s6, w, bad_n, neg_nI, lit_nI, nI_add, pk_mul, pk_sub, nI_clamp, inB_nI, gd_true, bnd_def, nI_leI, nI_ltI, nI_eq, nI_mI, mI_nI, nle_T, nle_F, nlt_T, nlt_F, neq_T, neq_F, ↓reduceIte, Nat.add_zero, Nat.zero_add, Nat.mul_zero, Nat.reduceAdd, Nat.reduceMul, Nat.reduceSub, ob1_e, ob2_e, ob3_e, ob4_e, ob6_e]
    · rw [if_neg q] at w
      refine Or.inr ⟨a3, ru, vl, nI G, nI M, pd, cn, ho, fe, st, af, we, ne, nI G, nI M, rr, rg, rm, by omega, hru, ?_, ?_⟩
      · by_cases q0 : 0 < cnt ho (nI 0) G
        · have q1 : cnt ho (nI 1) G = 0 := by omega
          simp (disch := omega) only [s3, sizeX_c hG, q1, neg_nI, lit_nI, nI_add, pk_mul, pk_sub, nI_clamp, inB_nI, gd_true, bnd_def, nI_leI, nI_ltI, nI_eq, nI_mI, mI_nI, nle_T, nle_F, nlt_T, nlt_F, neq_T, neq_F, ↓reduceIte, Nat.add_zero, Nat.zero_add, Nat.mul_zero, Nat.reduceAdd, Nat.reduceMul, Nat.reduceSub, ob1_e, ob2_e, ob3_e, ob4_e, ob6_e]
        · have q1 : cnt ho (nI 0) G = 0 := by omega
          simp (disch := omega) only [s3, sizeX_c hG, q1, neg_nI, lit_nI, nI_add, pk_mul, pk_sub, nI_clamp, inB_nI, gd_true, bnd_def, nI_leI, nI_ltI, nI_eq, nI_mI, mI_nI, nle_T, nle_F, nlt_T, nlt_F, neq_T, neq_F, ↓reduceIte, Nat.add_zero, Nat.zero_add, Nat.mul_zero, Nat.reduceAdd, Nat.reduceMul, Nat.reduceSub, ob1_e, ob2_e, ob3_e, ob4_e, ob6_e]
      · simp (disch := omega) only [b_X12_readPeace_213, b_X12_readPeace_234, b_X12_readPeace_235, b_X12_readPeace_250, f_X12_readPeace_49, b_X12_readPeace_49, b_X12_readPeace_257, b_X12_readPeace_284, b_X12_readPeace_280, s4, s6, w, bad_n, neg_nI, lit_nI, nI_add, pk_mul, pk_sub, nI_clamp, inB_nI, gd_true, bnd_def, nI_leI, nI_ltI, nI_eq, nI_mI, mI_nI, nle_T, nle_F, nlt_T, nlt_F, neq_T, neq_F, ↓reduceIte, Nat.add_zero, Nat.zero_add, Nat.mul_zero, Nat.reduceAdd, Nat.reduceMul, Nat.reduceSub, ob1_e, ob2_e, ob3_e, ob4_e, ob6_e]
  · subst ec
    by_cases q : b = 59
    · subst q
      have i1 := ih (a3 + 1) (by omega) (by omega)
      simp (disch := omega) only [s3, f_X10_take, b_X10_take_0, s5, b_X12_readPeace_213, b_X12_readPeace_235, b_X12_readPeace_250, s4, neg_nI, lit_nI, nI_add, pk_mul, pk_sub, nI_clamp, inB_nI, gd_true, bnd_def, nI_leI, nI_ltI, nI_eq, nI_mI, mI_nI, nle_T, nle_F, nlt_T, nlt_F, neq_T, neq_F, ↓reduceIte, Nat.add_zero, Nat.zero_add, Nat.mul_zero, Nat.reduceAdd, Nat.reduceMul, Nat.reduceSub, ob1_e, ob2_e, ob3_e, ob4_e, ob6_e]
      exact i1
    · refine Or.inr ⟨a3, ru, vl, nI G, nI M, pd, cn, ho, fe, st, af, we, ne, nI G, nI M, rr, rg, rm, by omega, hru, ?_, ?_⟩
      · simp (disch := omega) only [s3, f_X10_take, b_X10_take_0, s5, neg_nI, lit_nI, nI_add, pk_mul, pk_sub, nI_clamp, inB_nI, gd_true, bnd_def, nI_leI, nI_ltI, nI_eq, nI_mI, mI_nI, nle_T, nle_F, nlt_T, nlt_F, neq_T, neq_F, ↓reduceIte, Nat.add_zero, Nat.zero_add, Nat.mul_zero, Nat.reduceAdd, Nat.reduceMul, Nat.reduceSub, ob1_e, ob2_e, ob3_e, ob4_e, ob6_e]
      · simp (disch := omega) only [b_X12_readPeace_213, b_X12_readPeace_234, b_X12_readPeace_235, b_X12_readPeace_250, f_X12_readPeace_49, b_X12_readPeace_49, b_X12_readPeace_257, b_X12_readPeace_284, b_X12_readPeace_280, s4, s6, bad_n, neg_nI, lit_nI, nI_add, pk_mul, pk_sub, nI_clamp, inB_nI, gd_true, bnd_def, nI_leI, nI_ltI, nI_eq, nI_mI, mI_nI, nle_T, nle_F, nlt_T, nlt_F, neq_T, neq_F, ↓reduceIte, Nat.add_zero, Nat.zero_add, Nat.mul_zero, Nat.reduceAdd, Nat.reduceMul, Nat.reduceSub, ob1_e, ob2_e, ob3_e, ob4_e, ob6_e]
end PE
