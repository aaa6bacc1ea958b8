/-! how warmth rises by a law: the same by both -/
def cl9 (v : Int32) : Int32 := mx (-9) (mn 9 v)
def L6 (lt : Nat → Int32) (a b c d e f : Int32) : Nat → Int32 := upd (upd (upd (upd (upd (upd lt 0 a) 1 b) 2 c) 3 d) 4 e) 5 f
theorem L6_eq (lt lt2 : Nat → Int32) (a b c d e f : Int32) : ∀ l, l < 6 → L6 lt2 a b c d e f l = L6 lt a b c d e f l := by
  intro l hl
  have h : l = 0 ∨ l = 1 ∨ l = 2 ∨ l = 3 ∨ l = 4 ∨ l = 5 := by omega
  rcases h with rfl | rfl | rfl | rfl | rfl | rfl <;> rfl
def LawK (k : Nat) (arK ll mc mv mk mt ms mu : Nat → Int32) : Prop := ∃ CS : List Cl, (∀ C, C ∈ CS → OKC C) ∧ (XS CS).length ≤ 240 ∧ (YS CS).length ≤ 240 ∧ CS.length ≤ 80 ∧ ll k = nI (XS CS).length ∧ Rd cs arK 0 (XS CS) ∧ mk k = nI CS.length ∧ WR mt ms mu (140 * k) 0 CS ∧ Rd tc mc (520 * k) (YS CS) ∧ Rd tv mv (520 * k) (YS CS)
def pick (k : Nat) (l0 l1 l2 l3 : Nat → Int32) : Nat → Int32 := if k = 0 then l0 else if k = 1 then l1 else if k = 2 then l2 else l3
/-- the laws of both -/
def RLw (N : Nat) (ll l0 l1 l2 l3 mc mv mk mt ms mu : Nat → Int32) : Prop := N ≤ 4 ∧ ∀ k, k < N → LawK k (pick k l0 l1 l2 l3) ll mc mv mk mt ms mu
noncomputable def Rl (lh : Int32) (ll l0 l1 l2 l3 : Nat → Int32) : R6 := fun a b c d e f => match f_X2_riseBy lh ll l0 l1 l2 l3 (fun _ => nI 0) (fun _ => nI 0) a b c d e f with
  | some (r, _, _) => r
  | none => nI 0
theorem cl9_r (v : Int32) : -9 ≤ (cl9 v).toInt ∧ (cl9 v).toInt ≤ 9 := by
  have e1 : (-9 : Int32).toInt = -9 := by decide
  have e2 : (9 : Int32).toInt = 9 := by decide
  unfold cl9 mx mn
  by_cases h1 : v < 9
  · rw [if_pos h1]
    by_cases h2 : (-9 : Int32) < v
    · rw [if_pos h2]
      rw [lt32] at h1 h2
      omega
    · rw [if_neg h2]; omega
  · rw [if_neg h1, if_pos (by decide)]; omega
section R2
variable {ll l0 l1 l2 l3 mc mv mk mt ms mu : Nat → Int32}
theorem by_law {k : Nat} (hk : k < 4) (h : LawK k (pick k l0 l1 l2 l3) ll mc mv mk mt ms mu) (lt st lt2 st2 : Nat → Int32) (a b c d e f : Int32) : ∃ v lt' st' st2', f_X2_riseBy (nI k) ll l0 l1 l2 l3 lt st a b c d e f = some (cl9 v, lt', st') ∧ f_X12_worthOf mc mv mk mt ms mu (L6 lt2 a b c d e f) st2 (nI k) = some (v, st2') := by
  obtain ⟨CS, h1, h2, h3, h4, h5, h6, h7, h8, h9, h10⟩ := h
  obtain ⟨v, st', st2', x, y⟩ := worth_c (L6_eq lt lt2 a b c d e f) h2 h3 h4 (by omega) h7 h6 h8 h9 h10 h1 st st2
  rw [← h5] at x
  refine ⟨v, L6 lt a b c d e f, st', st2', ?_, y⟩
  have hk4 : k = 0 ∨ k = 1 ∨ k = 2 ∨ k = 3 := by omega
  rcases hk4 with rfl | rfl | rfl | rfl
  · replace x : f_X2_worth (upd (upd (upd (upd (upd (upd lt 0 a) 1 b) 2 c) 3 d) 4 e) 5 f) l0 241 st (ll 0) = some (v, st') := x
    simp (disch := omega) only [f_X2_riseBy, b_X2_riseBy_0, b_X2_riseBy_99, x, neg_nI, lit_nI, nI_add, pk_mul, pk_sub, nI_clamp, inB_nI, gd_true, bnd_def, nI_leI, nI_ltI, nI_eq, nI_mI, mI_nI, nle_T, nle_F, nlt_T, nlt_F, neq_T, neq_F, ↓reduceIte, Nat.add_zero, Nat.zero_add, Nat.mul_zero, Nat.reduceAdd, Nat.reduceMul, Nat.reduceSub, ob1_e, ob2_e, ob3_e, ob4_e, ob6_e]
    rfl
  · replace x : f_X2_worth (upd (upd (upd (upd (upd (upd lt 0 a) 1 b) 2 c) 3 d) 4 e) 5 f) l1 241 st (ll 1) = some (v, st') := x
    simp (disch := omega) only [f_X2_riseBy, b_X2_riseBy_0, b_X2_riseBy_99, x, neg_nI, lit_nI, nI_add, pk_mul, pk_sub, nI_clamp, inB_nI, gd_true, bnd_def, nI_leI, nI_ltI, nI_eq, nI_mI, mI_nI, nle_T, nle_F, nlt_T, nlt_F, neq_T, neq_F, ↓reduceIte, Nat.add_zero, Nat.zero_add, Nat.mul_zero, Nat.reduceAdd, Nat.reduceMul, Nat.reduceSub, ob1_e, ob2_e, ob3_e, ob4_e, ob6_e]
    rfl
  · replace x : f_X2_worth (upd (upd (upd (upd (upd (upd lt 0 a) 1 b) 2 c) 3 d) 4 e) 5 f) l2 241 st (ll 2) = some (v, st') := x
    simp (disch := omega) only [f_X2_riseBy, b_X2_riseBy_0, b_X2_riseBy_99, x, neg_nI, lit_nI, nI_add, pk_mul, pk_sub, nI_clamp, inB_nI, gd_true, bnd_def, nI_leI, nI_ltI, nI_eq, nI_mI, mI_nI, nle_T, nle_F, nlt_T, nlt_F, neq_T, neq_F, ↓reduceIte, Nat.add_zero, Nat.zero_add, Nat.mul_zero, Nat.reduceAdd, Nat.reduceMul, Nat.reduceSub, ob1_e, ob2_e, ob3_e, ob4_e, ob6_e]
    rfl
  · replace x : f_X2_worth (upd (upd (upd (upd (upd (upd lt 0 a) 1 b) 2 c) 3 d) 4 e) 5 f) l3 241 st (ll 3) = some (v, st') := x
    simp (disch := omega) only [f_X2_riseBy, b_X2_riseBy_0, b_X2_riseBy_99, x, neg_nI, lit_nI, nI_add, pk_mul, pk_sub, nI_clamp, inB_nI, gd_true, bnd_def, nI_leI, nI_ltI, nI_eq, nI_mI, mI_nI, nle_T, nle_F, nlt_T, nlt_F, neq_T, neq_F, ↓reduceIte, Nat.add_zero, Nat.zero_add, Nat.mul_zero, Nat.reduceAdd, Nat.reduceMul, Nat.reduceSub, ob1_e, ob2_e, ob3_e, ob4_e, ob6_e]
    rfl
theorem by_none (lt st : Nat → Int32) (a b c d e f : Int32) : f_X2_riseBy (mI 1) ll l0 l1 l2 l3 lt st a b c d e f = some (cl9 (((a / nI 2 + nI 2 * d) - e / nI 3) - b / nI 4), lt, st) := by
  unfold f_X2_riseBy b_X2_riseBy_0 b_X2_riseBy_99
  rw [if_pos (show mI 1 = (-1 : Int32) from rfl)]
  simp only [bnd_def]
  rfl
theorem by_noneY (lt st : Nat → Int32) (a b c d e f : Int32) (hd : d = nI 0 ∨ d = nI 1) : f_X12_riseBy (mI 1) mc mv mk mt ms mu lt st a b c d e f = some (cl9 (((a / nI 2 + nI 2 * d) - e / nI 3) - b / nI 4), lt, st) := by
  have z0 : nI 2 * nI 0 = nI 0 := by decide
  have z1 : nI 2 * nI 1 = nI 2 := by decide
  rcases hd with rfl | rfl
  · unfold f_X12_riseBy b_X12_riseBy_0
    rw [if_pos (show nI 0 = (0 : Int32) from rfl), z0]
    unfold b_X12_riseBy_13 b_X12_riseBy_96
    simp only [bnd_def]
    rw [if_pos (show mI 1 = (-1 : Int32) from rfl)]
    rfl
  · unfold f_X12_riseBy b_X12_riseBy_0
    rw [if_neg (by decide), z1]
    unfold b_X12_riseBy_13 b_X12_riseBy_96
    simp only [bnd_def]
    rw [if_pos (show mI 1 = (-1 : Int32) from rfl)]
    rfl
theorem by_lawY {k : Nat} (hk : k < 4) (lt st : Nat → Int32) (a b c d e f v : Int32) (st' : Nat → Int32) (hd : d = nI 0 ∨ d = nI 1) (y : f_X12_worthOf mc mv mk mt ms mu (L6 lt a b c d e f) st (nI k) = some (v, st')) : f_X12_riseBy (nI k) mc mv mk mt ms mu lt st a b c d e f = some (cl9 v, L6 lt a b c d e f, st') := by
  have hk1 : ¬ (nI k = (-1 : Int32)) := nI_nm (by omega)
  rcases hd with rfl | rfl
  · unfold f_X12_riseBy b_X12_riseBy_0
    rw [if_pos (show nI 0 = (0 : Int32) from rfl)]
    unfold b_X12_riseBy_13
    simp only [bnd_def]
    rw [if_neg hk1]
    replace y : f_X12_worthOf mc mv mk mt ms mu (upd (upd (upd (upd (upd (upd lt 0 a) 1 b) 2 c) 3 (nI 0)) 4 e) 5 f) st (nI k) = some (v, st') := y
    simp (disch := omega) only [b_X12_riseBy_69, b_X12_riseBy_96, y, neg_nI, lit_nI, nI_add, pk_mul, pk_sub, nI_clamp, inB_nI, gd_true, bnd_def, nI_leI, nI_ltI, nI_eq, nI_mI, mI_nI, nle_T, nle_F, nlt_T, nlt_F, neq_T, neq_F, ↓reduceIte, Nat.add_zero, Nat.zero_add, Nat.mul_zero, Nat.reduceAdd, Nat.reduceMul, Nat.reduceSub, ob1_e, ob2_e, ob3_e, ob4_e, ob6_e]
    rfl
  · unfold f_X12_riseBy b_X12_riseBy_0
    rw [if_neg (by decide)]
    unfold b_X12_riseBy_13
    simp only [bnd_def]
    rw [if_neg hk1]
    replace y : f_X12_worthOf mc mv mk mt ms mu (upd (upd (upd (upd (upd (upd lt 0 a) 1 b) 2 c) 3 (nI 1)) 4 e) 5 f) st (nI k) = some (v, st') := y
    simp (disch := omega) only [b_X12_riseBy_69, b_X12_riseBy_96, y, neg_nI, lit_nI, nI_add, pk_mul, pk_sub, nI_clamp, inB_nI, gd_true, bnd_def, nI_leI, nI_ltI, nI_eq, nI_mI, mI_nI, nle_T, nle_F, nlt_T, nlt_F, neq_T, neq_F, ↓reduceIte, Nat.add_zero, Nat.zero_add, Nat.mul_zero, Nat.reduceAdd, Nat.reduceMul, Nat.reduceSub, ob1_e, ob2_e, ob3_e, ob4_e, ob6_e]
    rfl
/-- the law that holds: none, or one of those that there are -/
def HL (N : Nat) (lh : Int32) : Prop := lh = mI 1 ∨ ∃ k, k < N ∧ lh = nI k
theorem rise_all {N : Nat} {lh : Int32} (h : RLw N ll l0 l1 l2 l3 mc mv mk mt ms mu) (hh : HL N lh) : RiseX (Rl lh ll l0 l1 l2 l3) lh ll l0 l1 l2 l3 ∧ RiseY (Rl lh ll l0 l1 l2 l3) lh mc mv mk mt ms mu ∧ RiseB (Rl lh ll l0 l1 l2 l3) := by
  obtain ⟨h4, h⟩ := h
  rcases hh with rfl | ⟨k, hk, rfl⟩
  · have eR : ∀ a b c d e f, Rl (mI 1) ll l0 l1 l2 l3 a b c d e f = cl9 (((a / nI 2 + nI 2 * d) - e / nI 3) - b / nI 4) := by
      intro a b c d e f
      unfold Rl
      rw [by_none]
    refine ⟨fun lt st a b c d e f => ⟨lt, st, by rw [eR]; exact by_none lt st a b c d e f⟩, fun lt st a b c d e f hd => ⟨lt, st, by rw [eR]; exact by_noneY lt st a b c d e f hd⟩, fun a b c d e f => by rw [eR]; exact cl9_r _⟩
  · have hl := h k hk
    have eR : ∀ (lt2 st2 : Nat → Int32) a b c d e f v st2', f_X12_worthOf mc mv mk mt ms mu (L6 lt2 a b c d e f) st2 (nI k) = some (v, st2') → Rl (nI k) ll l0 l1 l2 l3 a b c d e f = cl9 v := by
      intro lt2 st2 a b c d e f v st2' y
      obtain ⟨v0, lt', st', st3, x0, y0⟩ := by_law (by omega) hl (fun _ => nI 0) (fun _ => nI 0) lt2 st2 a b c d e f
      unfold Rl
      rw [x0]
      rw [y] at y0
      have := congrArg Prod.fst (Option.some.inj y0)
      show cl9 v0 = cl9 v
      rw [show v = v0 from this]
    refine ⟨fun lt st a b c d e f => ?_, fun lt st a b c d e f hd => ?_, fun a b c d e f => ?_⟩
    · obtain ⟨v, lt', st', st3, x, y⟩ := by_law (by omega) hl lt st lt st a b c d e f
      exact ⟨lt', st', by rw [eR lt st a b c d e f v st3 y]; exact x⟩
    · obtain ⟨v, lt', st', st3, x, y⟩ := by_law (by omega) hl lt st lt st a b c d e f
      exact ⟨_, st3, by rw [eR lt st a b c d e f v st3 y]; exact by_lawY (by omega) lt st a b c d e f v st3 hd y⟩
    · obtain ⟨v, lt', st', st3, x, y⟩ := by_law (by omega) hl (fun _ => nI 0) (fun _ => nI 0) (fun _ => nI 0) (fun _ => nI 0) a b c d e f
      rw [eR _ _ a b c d e f v st3 y]
      exact cl9_r _
end R2
