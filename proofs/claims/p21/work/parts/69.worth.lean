/-! a law is worth the same by both -/
theorem Ex.nd {L : List Tok} {h : Nat} (e : Ex L h) : ∀ x, x ∈ L → cs x ≠ mI 13 := by
  refine e (fun L _ => ∀ x, x ∈ L → cs x ≠ mI 13) ?_ ?_ ?_ ?_
  · intro v hv x hx
    rw [List.mem_singleton.mp hx]
    show nI v ≠ mI 13
    intro q
    exact (nI_mI (n := v) (k := 13) (by omega)).mp q
  · intro l hl x hx
    rw [List.mem_singleton.mp hx]
    show mI (14 + l) ≠ mI 13
    rw [ne_eq, mI_eq (by omega)]
    omega
  · intro k A B _ _ hk hA hB x hx
    rcases List.mem_append.mp hx with q | q
    · exact hA x q
    · rcases List.mem_append.mp q with q | q
      · exact hB x q
      · rw [List.mem_singleton.mp q]
        obtain ⟨w, w1, w2, e⟩ := csb k hk
        rw [e, ne_eq, mI_eq (by omega)]
        omega
  · intro A _ hA x hx
    rcases List.mem_append.mp hx with q | q
    · exact hA x q
    · rw [List.mem_singleton.mp q]
      decide
section WO
variable {lt ml : Nat → Int32}
theorem ec_l {ar : Nat → Int32} {len : Nat} (hl : len ≤ 241) : ∀ (L : List Tok) (i f : Nat), (∀ x, x ∈ L → cs x ≠ mI 13) → Rd cs ar i (L ++ [(14, 0)]) → i + L.length < len → L.length < f → f_X2_endOfClause_2 ar 241 f (nI len) (nI i) = some (nI (i + L.length))
  | [], i, f + 1, _, hr, hi, _ => by
    replace hi : i < len := hi
    have e : ar i = mI 13 := hr.1
    rw [show f_X2_endOfClause_2 ar 241 (f + 1) (nI len) (nI i) = b_X2_endOfClause_2 ar 241 (f_X2_endOfClause_2 ar 241 f) (nI len) (nI i) from rfl]
    simp (disch := omega) only [b_X2_endOfClause_2, e, mI_eq, neg_nI, lit_nI, nI_add, pk_mul, pk_sub, nI_clamp, inB_nI, gd_true, bnd_def, nI_leI, nI_ltI, nI_eq, nI_mI, mI_nI, nle_T, nle_F, nlt_T, nlt_F, neq_T, neq_F, ↓reduceIte, Nat.add_zero, Nat.zero_add, Nat.mul_zero, Nat.reduceAdd, Nat.reduceMul, Nat.reduceSub, ob1_e, ob2_e, ob3_e, ob4_e, ob6_e]
    rfl
  | x :: L, i, f + 1, hn, hr, hi, hf => by
    have hlen : (x :: L).length = L.length + 1 := rfl
    rw [hlen] at hi hf ⊢
    have e : ar i = cs x := hr.1
    have ne : cs x ≠ mI 13 := hn x (List.mem_cons_self ..)
    have ih := ec_l hl L (i + 1) f (fun y hy => hn y (List.mem_cons_of_mem _ hy)) hr.2 (by omega) (by omega)
    rw [show f_X2_endOfClause_2 ar 241 (f + 1) (nI len) (nI i) = b_X2_endOfClause_2 ar 241 (f_X2_endOfClause_2 ar 241 f) (nI len) (nI i) from rfl]
    rw [show i + (L.length + 1) = i + 1 + L.length by omega, ← ih]
    simp (disch := omega) only [b_X2_endOfClause_2, e, ne, neg_nI, lit_nI, nI_add, pk_mul, pk_sub, nI_clamp, inB_nI, gd_true, bnd_def, nI_leI, nI_ltI, nI_eq, nI_mI, mI_nI, nle_T, nle_F, nlt_T, nlt_F, neq_T, neq_F, ↓reduceIte, Nat.add_zero, Nat.zero_add, Nat.mul_zero, Nat.reduceAdd, Nat.reduceMul, Nat.reduceSub, ob1_e, ob2_e, ob3_e, ob4_e, ob6_e]
theorem doneX {ar st : Nat → Int32} {f i len : Nat} {tp : Int32} (hl : len ≤ 241) (hi : i < len) (e : ar i = mI 13) : f_X2_worth_5 lt ar 241 (f + 1) st (nI len) tp (nI i) = some (st 0, st) := by
  rw [ux5]
  simp (disch := omega) only [b_X2_worth_5, e, mI_eq, neg_nI, lit_nI, nI_add, pk_mul, pk_sub, nI_clamp, inB_nI, gd_true, bnd_def, nI_leI, nI_ltI, nI_eq, nI_mI, mI_nI, nle_T, nle_F, nlt_T, nlt_F, neq_T, neq_F, ↓reduceIte, Nat.add_zero, Nat.zero_add, Nat.mul_zero, Nat.reduceAdd, Nat.reduceMul, Nat.reduceSub, ob1_e, ob2_e, ob3_e, ob4_e, ob6_e]
theorem testX0 {ar st : Nat → Int32} {f i len r : Nat} {tp : Int32} (hl : len ≤ 241) (hi : i < len) (hr : r < 241) (e : ar i = mI 12) (e0 : st 0 = nI 0) (er : f_X2_endOfClause ar 241 (nI len) (nI i) = some (nI r)) : f_X2_worth_5 lt ar 241 (f + 1) st (nI len) tp (nI i) = f_X2_worth_5 lt ar 241 f st (nI len) (mI 1) (nI (r + 1)) := by
  rw [ux5]
  simp (disch := omega) only [b_X2_worth_5, b_X2_worth_61, b_X2_worth_173, e, e0, er, mI_eq, neg_nI, lit_nI, nI_add, pk_mul, pk_sub, nI_clamp, inB_nI, gd_true, bnd_def, nI_leI, nI_ltI, nI_eq, nI_mI, mI_nI, nle_T, nle_F, nlt_T, nlt_F, neq_T, neq_F, ↓reduceIte, Nat.add_zero, Nat.zero_add, Nat.mul_zero, Nat.reduceAdd, Nat.reduceMul, Nat.reduceSub, ob1_e, ob2_e, ob3_e, ob4_e, ob6_e]
theorem testX1 {ar st : Nat → Int32} {f i len : Nat} {tp : Int32} (hl : len ≤ 241) (hi : i < len) (e : ar i = mI 12) (e0 : ¬ st 0 = nI 0) : f_X2_worth_5 lt ar 241 (f + 1) st (nI len) tp (nI i) = f_X2_worth_5 lt ar 241 f st (nI len) (mI 1) (nI (i + 1)) := by
  rw [ux5]
  simp (disch := omega) only [b_X2_worth_5, b_X2_worth_61, b_X2_worth_173, e, e0, mI_eq, neg_nI, lit_nI, nI_add, pk_mul, pk_sub, nI_clamp, inB_nI, gd_true, bnd_def, nI_leI, nI_ltI, nI_eq, nI_mI, mI_nI, nle_T, nle_F, nlt_T, nlt_F, neq_T, neq_F, ↓reduceIte, Nat.add_zero, Nat.zero_add, Nat.mul_zero, Nat.reduceAdd, Nat.reduceMul, Nat.reduceSub, ob1_e, ob2_e, ob3_e, ob4_e, ob6_e]
/-- a row worked out by the model -/
theorem outY {L : List Tok} {h : Nat} {v : Int32} (hY : SY ml L h v) (hh : h ≤ 80) {mc mv st : Nat → Int32} {tx fr : Nat} (ht : tx ≤ 4) (hto : fr + L.length ≤ 520) (hr : Rd tc mc (520 * tx + fr) L) (hw : Rd tv mv (520 * tx + fr) L) : ∃ st', f_X12_workOut mc mv ml st (nI tx) (nI fr) (nI (fr + L.length)) = some (v, st') := by
  have hf := fu_le
  obtain ⟨f, ef⟩ : ∃ f, fu = f + 1 + L.length := ⟨fu - 1 - L.length, by omega⟩
  obtain ⟨st', e1, e2, e3⟩ := hY mc mv (f + 1) st tx (fr + L.length) (520 * tx + fr) 0 ht hto (by omega) (by omega) hr hw
  refine ⟨st', ?_⟩
  have e : f_X12_workOut mc mv ml st (nI tx) (nI fr) (nI (fr + L.length)) = f_X12_workOut_12 mc mv ml fu st (nI tx) (nI (fr + L.length)) (nI 0) (nI (520 * tx + fr)) := by
    simp (disch := omega) only [f_X12_workOut, b_X12_workOut_0, neg_nI, lit_nI, nI_add, pk_mul, pk_sub, nI_clamp, inB_nI, gd_true, bnd_def, nI_leI, nI_ltI, nI_eq, nI_mI, mI_nI, nle_T, nle_F, nlt_T, nlt_F, neq_T, neq_F, ↓reduceIte, Nat.add_zero, Nat.zero_add, Nat.mul_zero, Nat.reduceAdd, Nat.reduceMul, Nat.reduceSub, ob1_e, ob2_e, ob3_e, ob4_e, ob6_e]
  rw [e, ef, e1, uy12, ← e2]
  simp (disch := omega) only [b_X12_workOut_12, neg_nI, lit_nI, nI_add, pk_mul, pk_sub, nI_clamp, inB_nI, gd_true, bnd_def, nI_leI, nI_ltI, nI_eq, nI_mI, mI_nI, nle_T, nle_F, nlt_T, nlt_F, neq_T, neq_F, ↓reduceIte, Nat.add_zero, Nat.zero_add, Nat.mul_zero, Nat.reduceAdd, Nat.reduceMul, Nat.reduceSub, ob1_e, ob2_e, ob3_e, ob4_e, ob6_e]
theorem wl_l (hl : ∀ l, l < 6 → ml l = lt l) {ar mc mv mk mt ms mu : Nat → Int32} {len tx nc : Nat} (hlen : len ≤ 240) (htx : tx ≤ 4) (hnc : nc ≤ 80) (hk : mk tx = nI nc) : ∀ (R : List Cl) (i o p : Nat) (st st2 : Nat → Int32) (kx ky : Nat), Rd cs ar i (XS R) → i + (XS R).length = len → WR mt ms mu p o R → 140 * tx ≤ p → p + R.length = 140 * tx + nc → Rd tc mc (520 * tx + o) (YS R) → Rd tv mv (520 * tx + o) (YS R) → o + (YS R).length ≤ 520 → (∀ C, C ∈ R → OKC C) → (XS R).length < kx → R.length < ky → ∃ v st' st2', f_X2_worth_5 lt ar 241 kx st (nI len) (mI 1) (nI i) = some (v, st') ∧ f_X12_worthOf_6 mc mv mk mt ms mu ml ky st2 (nI tx) (nI p) = some (v, st2')
  | [], i, o, p, st, st2, kx + 1, ky + 1, hr, hi, hw, hp0, hp, hc, hv, ho, hok, _, _ => by
    replace hi : i = len := hi
    replace hp : p = 140 * tx + nc := hp
    subst hi
    refine ⟨nI 0, st, st2, ?_, ?_⟩
    · rw [ux5]
      simp (disch := omega) only [b_X2_worth_5, neg_nI, lit_nI, nI_add, pk_mul, pk_sub, nI_clamp, inB_nI, gd_true, bnd_def, nI_leI, nI_ltI, nI_eq, nI_mI, mI_nI, nle_T, nle_F, nlt_T, nlt_F, neq_T, neq_F, ↓reduceIte, Nat.add_zero, Nat.zero_add, Nat.mul_zero, Nat.reduceAdd, Nat.reduceMul, Nat.reduceSub, ob1_e, ob2_e, ob3_e, ob4_e, ob6_e]
    · rw [show f_X12_worthOf_6 mc mv mk mt ms mu ml (ky + 1) st2 (nI tx) (nI p) = b_X12_worthOf_6 mc mv mk mt ms mu ml (f_X12_worthOf_6 mc mv mk mt ms mu ml ky) st2 (nI tx) (nI p) from rfl]
      simp (disch := omega) only [b_X12_worthOf_6, hk, neg_nI, lit_nI, nI_add, pk_mul, pk_sub, nI_clamp, inB_nI, gd_true, bnd_def, nI_leI, nI_ltI, nI_eq, nI_mI, mI_nI, nle_T, nle_F, nlt_T, nlt_F, neq_T, neq_F, ↓reduceIte, Nat.add_zero, Nat.zero_add, Nat.mul_zero, Nat.reduceAdd, Nat.reduceMul, Nat.reduceSub, ob1_e, ob2_e, ob3_e, ob4_e, ob6_e]
  | C :: R, i, o, p, st, st2, kx + 1, ky + 1, hr, hi, hw, hp0, hp, hc, hv, ho, hok, hkx, hky => by
    obtain ⟨T, S⟩ := C
    have l1 : (XS ((T, S) :: R)).length = (XL T S).length + (XS R).length := by show (XL T S ++ XS R).length = _; rw [List.length_append]
    have l2 : (YS ((T, S) :: R)).length = (T ++ S).length + (YS R).length := by show ((T ++ S) ++ YS R).length = _; rw [List.length_append]
    have l3 : ((T, S) :: R).length = R.length + 1 := rfl
    have l4 : (T ++ S).length = T.length + S.length := List.length_append
    rw [l1] at hi hkx
    rw [l2] at ho
    rw [l3] at hp hky
    obtain ⟨⟨⟨hS, hS1, eS⟩, hT⟩⟩ : OKC (T, S) ∧ True := ⟨hok (T, S) (List.mem_cons_self ..), trivial⟩
    replace eS : Ex S hS := eS
    obtain ⟨hrX, hrR⟩ := Rd_app (XL T S) (XS R) i hr
    obtain ⟨hcY, hcR⟩ := Rd_app (T ++ S) (YS R) (520 * tx + o) hc
    obtain ⟨hvY, hvR⟩ := Rd_app (T ++ S) (YS R) (520 * tx + o) hv
    obtain ⟨hcT, hcS⟩ := Rd_app T S (520 * tx + o) hcY
    obtain ⟨hvT, hvS⟩ := Rd_app T S (520 * tx + o) hvY
    obtain ⟨⟨w1, w2, w3⟩, w4⟩ := hw
    replace w1 : mt p = nI o := w1
    replace w2 : ms p = nI (o + T.length) := w2
    replace w3 : mu p = nI (o + (T ++ S).length) := w3
    rw [l4] at w3
    obtain ⟨_, vS, SXs, SYs⟩ := run_c hl eS
    have uy6 : f_X12_worthOf_6 mc mv mk mt ms mu ml (ky + 1) st2 (nI tx) (nI p) = b_X12_worthOf_6 mc mv mk mt ms mu ml (f_X12_worthOf_6 mc mv mk mt ms mu ml ky) st2 (nI tx) (nI p) := rfl
    rcases hT with hT | ⟨hTh, hT1, eT⟩
    · replace hT : T = [] := hT
      subst hT
      have l5 := XL_0l (S := S)
      obtain ⟨q1, q2⟩ := Rd_app S [(14, 0)] i hrX
      obtain ⟨f, ef⟩ : ∃ f, kx + 1 = f + 1 + S.length := ⟨kx - S.length, by omega⟩
      obtain ⟨st', e1, e2, e3⟩ := SXs ar (f + 1) st i len 0 (by omega) (by omega) (by omega) q1
      replace hcS : Rd tc mc (520 * tx + o) S := hcS
      replace hvS : Rd tv mv (520 * tx + o) S := hvS
      replace w2 : ms p = nI o := w2
      replace w3 : mu p = nI (o + S.length) := by rw [w3]; congr 1; show o + (0 + S.length) = _; omega
      replace l4 : ([] ++ S : List Tok).length = S.length := rfl
      obtain ⟨st3, y1⟩ := outY SYs (by omega) (st := st2) htx (by omega) hcS hvS
      refine ⟨vS, st', st3, ?_, ?_⟩
      · rw [ef, show mI 1 = tpX 0 from rfl, e1, doneX (by omega) (by omega) q2.1, e2]
      · rw [uy6]
        simp (disch := omega) only [b_X12_worthOf_6, b_X12_worthOf_57, hk, w1, w2, w3, y1, neg_nI, lit_nI, nI_add, pk_mul, pk_sub, nI_clamp, inB_nI, gd_true, bnd_def, nI_leI, nI_ltI, nI_eq, nI_mI, mI_nI, nle_T, nle_F, nlt_T, nlt_F, neq_T, neq_F, ↓reduceIte, Nat.add_zero, Nat.zero_add, Nat.mul_zero, Nat.reduceAdd, Nat.reduceMul, Nat.reduceSub, ob1_e, ob2_e, ob3_e, ob4_e, ob6_e]
    · replace eT : Ex T hTh := eT
      have l5 := XL_1l (T := T) (S := S) eT.ne
      have lT := eT.len
      rw [XL_1 eT.ne] at hrX
      obtain ⟨q1, q2⟩ := Rd_app (T ++ [(13, 0)]) (S ++ [(14, 0)]) i hrX
      obtain ⟨q1, q3⟩ := Rd_app T [(13, 0)] i q1
      rw [len2] at q2
      have q2' : Rd cs ar (i + T.length) ((13, 0) :: S ++ [(14, 0)]) := ⟨q3.1, by rw [show i + T.length + 1 = i + (T.length + 1) by omega]; exact q2⟩
      obtain ⟨_, vT, SXt, SYt⟩ := run_c hl eT
      obtain ⟨f, ef⟩ : ∃ f, kx + 1 = f + 1 + T.length := ⟨kx - T.length, by omega⟩
      obtain ⟨st', e1, e2, e3⟩ := SXt ar (f + 1) st i len 0 (by omega) (by omega) (by omega) q1
      obtain ⟨st3, y1⟩ := outY SYt (by omega) (st := st2) htx (by omega) hcT hvT
      have q4 : ar (i + T.length) = mI 12 := q3.1
      by_cases z : vT = nI 0
      · have hec : f_X2_endOfClause ar 241 (nI len) (nI (i + T.length)) = some (nI (i + T.length + (S.length + 1))) := by
          have hf := fu_le
          refine ec_l (by omega) ((13, 0) :: S) (i + T.length) fu ?_ q2' (by show i + T.length + (S.length + 1) < len; omega) (by show S.length + 1 < fu; omega)
          intro x hx
          rcases List.mem_cons.mp hx with q | q
          · rw [q]; decide
          · exact eS.nd x q
        obtain ⟨v, st4, st5, z1, z2⟩ := wl_l hl hlen htx hnc hk R (i + (XL T S).length) (o + (T ++ S).length) (p + 1) st' st3 f ky hrR (by omega) w4 (by omega) (by omega) (by rw [← Nat.add_assoc]; exact hcR) (by rw [← Nat.add_assoc]; exact hvR) (by omega) (fun C hC => hok C (List.mem_cons_of_mem _ hC)) (by omega) (by omega)
        refine ⟨v, st4, st5, ?_, ?_⟩
        · rw [ef, show mI 1 = tpX 0 from rfl, e1, testX0 (by omega) (by omega) (by omega) q4 (by rw [e2, z]) hec, ← z1, l5, show i + T.length + (S.length + 1) + 1 = i + (T.length + S.length + 2) by omega]
        · rw [uy6, ← z2]
          simp (disch := omega) only [b_X12_worthOf_6, hk, w1, w2, y1, z, neg_nI, lit_nI, nI_add, pk_mul, pk_sub, nI_clamp, inB_nI, gd_true, bnd_def, nI_leI, nI_ltI, nI_eq, nI_mI, mI_nI, nle_T, nle_F, nlt_T, nlt_F, neq_T, neq_F, ↓reduceIte, Nat.add_zero, Nat.zero_add, Nat.mul_zero, Nat.reduceAdd, Nat.reduceMul, Nat.reduceSub, ob1_e, ob2_e, ob3_e, ob4_e, ob6_e]
      · obtain ⟨g, eg⟩ : ∃ g, f = g + 1 + S.length := ⟨f - 1 - S.length, by omega⟩
        obtain ⟨q5, q6⟩ := Rd_app S [(14, 0)] (i + (T.length + 1)) q2
        obtain ⟨st4, f1, f2, f3⟩ := SXs ar (g + 1) st' (i + (T.length + 1)) len 0 (by omega) (by omega) (by omega) q5
        obtain ⟨st5, y2⟩ := outY SYs (by omega) (st := st3) (tx := tx) (fr := o + T.length) htx (by omega) (by rw [← Nat.add_assoc]; exact hcS) (by rw [← Nat.add_assoc]; exact hvS)
        rw [Nat.add_assoc o] at y2
        refine ⟨vS, st4, st5, ?_, ?_⟩
        · rw [ef, show mI 1 = tpX 0 from rfl, e1, testX1 (by omega) (by omega) q4 (by rw [e2]; exact z), eg, Nat.add_assoc i, show mI 1 = tpX 0 from rfl, f1, doneX (by omega) (by omega) q6.1, f2]
        · rw [uy6]
          simp (disch := omega) only [b_X12_worthOf_6, b_X12_worthOf_57, hk, w1, w2, w3, y1, y2, z, neg_nI, lit_nI, nI_add, pk_mul, pk_sub, nI_clamp, inB_nI, gd_true, bnd_def, nI_leI, nI_ltI, nI_eq, nI_mI, mI_nI, nle_T, nle_F, nlt_T, nlt_F, neq_T, neq_F, ↓reduceIte, Nat.add_zero, Nat.zero_add, Nat.mul_zero, Nat.reduceAdd, Nat.reduceMul, Nat.reduceSub, ob1_e, ob2_e, ob3_e, ob4_e, ob6_e]
/-- what a law is worth, by both -/
theorem worth_c (hl : ∀ l, l < 6 → ml l = lt l) {ar mc mv mk mt ms mu : Nat → Int32} {tx : Nat} {CS : List Cl} (hX : (XS CS).length ≤ 240) (hYl : (YS CS).length ≤ 240) (hC : CS.length ≤ 80) (htx : tx ≤ 4) (hk : mk tx = nI CS.length) (hr : Rd cs ar 0 (XS CS)) (hw : WR mt ms mu (140 * tx) 0 CS) (hc : Rd tc mc (520 * tx) (YS CS)) (hv : Rd tv mv (520 * tx) (YS CS)) (hok : ∀ C, C ∈ CS → OKC C) (st st2 : Nat → Int32) : ∃ v st' st2', f_X2_worth lt ar 241 st (nI (XS CS).length) = some (v, st') ∧ f_X12_worthOf mc mv mk mt ms mu ml st2 (nI tx) = some (v, st2') := by
  have hf := fu_le
  obtain ⟨v, st', st2', e1, e2⟩ := wl_l hl hX htx hC hk CS 0 0 (140 * tx) st st2 fu fu hr (by omega) hw (by omega) rfl hc hv (by omega) hok (by omega) (by omega)
  refine ⟨v, st', st2', e1, ?_⟩
  have e : f_X12_worthOf mc mv mk mt ms mu ml st2 (nI tx) = f_X12_worthOf_6 mc mv mk mt ms mu ml fu st2 (nI tx) (nI (140 * tx)) := by
    simp (disch := omega) only [f_X12_worthOf, b_X12_worthOf_0, neg_nI, lit_nI, nI_add, pk_mul, pk_sub, nI_clamp, inB_nI, gd_true, bnd_def, nI_leI, nI_ltI, nI_eq, nI_mI, mI_nI, nle_T, nle_F, nlt_T, nlt_F, neq_T, neq_F, ↓reduceIte, Nat.add_zero, Nat.zero_add, Nat.mul_zero, Nat.reduceAdd, Nat.reduceMul, Nat.reduceSub, ob1_e, ob2_e, ob3_e, ob4_e, ob6_e]
  rw [e]
  exact e2
end WO
