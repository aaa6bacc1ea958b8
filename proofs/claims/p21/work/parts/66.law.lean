/-! a law is read by both -/
abbrev Cl : Type := List Tok × List Tok
def XS : List Cl → List Tok
  | [] => []
  | C :: r => XL C.1 C.2 ++ XS r
def YS : List Cl → List Tok
  | [] => []
  | C :: r => (C.1 ++ C.2) ++ YS r
theorem XS_sn : ∀ (A : List Cl) (C : Cl), XS (A ++ [C]) = XS A ++ XL C.1 C.2
  | [], C => by show XL C.1 C.2 ++ [] = [] ++ _; rw [List.append_nil, List.nil_append]
  | D :: A, C => by show XL D.1 D.2 ++ XS (A ++ [C]) = (XL D.1 D.2 ++ XS A) ++ _; rw [XS_sn A C, List.append_assoc]
theorem YS_sn : ∀ (A : List Cl) (C : Cl), YS (A ++ [C]) = YS A ++ (C.1 ++ C.2)
  | [], C => by show (C.1 ++ C.2) ++ [] = [] ++ _; rw [List.append_nil, List.nil_append]
  | D :: A, C => by show (D.1 ++ D.2) ++ YS (A ++ [C]) = ((D.1 ++ D.2) ++ YS A) ++ _; rw [YS_sn A C]; exact (List.append_assoc _ _ _).symm
/-- where the clauses lie in the model's rows -/
def WR (tf sf st : Nat → Int32) : Nat → Nat → List Cl → Prop
  | _, _, [] => True
  | p, o, C :: r => (tf p = nI o ∧ sf p = nI (o + C.1.length) ∧ st p = nI (o + (C.1 ++ C.2).length)) ∧ WR tf sf st (p + 1) (o + (C.1 ++ C.2).length) r
theorem WR_sn {tf sf st tf' sf' st' : Nat → Int32} {C : Cl} : ∀ (A : List Cl) (p o : Nat), WR tf sf st p o A → (∀ i, p ≤ i → i < p + A.length → tf' i = tf i ∧ sf' i = sf i ∧ st' i = st i) → tf' (p + A.length) = nI (o + (YS A).length) → sf' (p + A.length) = nI (o + (YS A).length + C.1.length) → st' (p + A.length) = nI (o + (YS A).length + (C.1 ++ C.2).length) → WR tf' sf' st' p o (A ++ [C])
  | [], p, o, _, _, e1, e2, e3 => ⟨⟨e1, e2, e3⟩, trivial⟩
  | D :: A, p, o, h, hi, e1, e2, e3 => by
    obtain ⟨⟨h1, h2, h3⟩, h4⟩ := h
    have hl : (D :: A).length = A.length + 1 := rfl
    have hy : (YS (D :: A)).length = (D.1 ++ D.2).length + (YS A).length := by show ((D.1 ++ D.2) ++ YS A).length = _; rw [List.length_append]
    rw [hl] at hi e1 e2 e3
    rw [hy] at e1 e2 e3
    obtain ⟨j1, j2, j3⟩ := hi p (by omega) (by omega)
    refine ⟨⟨by rw [j1, h1], by rw [j2, h2], by rw [j3, h3]⟩, WR_sn A (p + 1) _ h4 (fun i a b => hi i (by omega) (by omega)) ?_ ?_ ?_⟩
    · rw [show p + 1 + A.length = p + (A.length + 1) by omega, e1]; congr 1; omega
    · rw [show p + 1 + A.length = p + (A.length + 1) by omega, e2]; congr 1; omega
    · rw [show p + 1 + A.length = p + (A.length + 1) by omega, e3]; congr 1; omega
def OKC (C : Cl) : Prop := (∃ h, h ≤ 20 ∧ Ex C.2 h) ∧ (C.1 = [] ∨ ∃ h, h ≤ 20 ∧ Ex C.1 h)
abbrev LT : Type := Int32 × Int32 × Int32 × Int32 × Int32 × (Nat → Int32) × (Nat → Int32) × (Nat → Int32) × (Nat → Int32) × (Nat → Int32) × (Nat → Int32) × (Nat → Int32)
def LAg (n tx : Nat) (lc code value codes cl tf sf st : Nat → Int32) (x : Option XT) (y : Option LT) : Prop := ∃ (CS : List Cl) (codes2 cl2 tf2 sf2 st2 : Nat → Int32), (∀ C, C ∈ CS → OKC C) ∧ (XS CS).length ≤ 240 ∧ (YS CS).length ≤ 240 ∧ CS.length ≤ 80 ∧ x = some (nI 1, nI n, nI (XS CS).length, ap cs lc 0 (XS CS)) ∧ y = some (mI 1, nI n, mI 1, nI 0, nI tx, ap tc code (520 * tx) (YS CS), ap tv value (520 * tx) (YS CS), codes2, cl2, tf2, sf2, st2) ∧ cl2 tx = nI CS.length ∧ WR tf2 sf2 st2 (140 * tx) 0 CS ∧ FRM tx code value codes cl tf sf st (ap tc code (520 * tx) (YS CS)) (ap tv value (520 * tx) (YS CS)) codes2 cl2 tf2 sf2 st2
def LAb (n tx : Nat) (code value codes cl tf sf st : Nat → Int32) (x : Option XT) (y : Option LT) : Prop := ∃ (a : Nat) (x1 : Int32) (x2 : Nat → Int32) (p q : Int32) (code2 value2 codes2 cl2 tf2 sf2 st2 : Nat → Int32), a ≤ n ∧ x = some (nI 0, nI a, x1, x2) ∧ y = some (nI a, p, nI a, q, nI tx, code2, value2, codes2, cl2, tf2, sf2, st2) ∧ FRM tx code value codes cl tf sf st code2 value2 codes2 cl2 tf2 sf2 st2
def LAO (n tx : Nat) (lc code value codes cl tf sf st : Nat → Int32) (x : Option XT) (y : Option LT) : Prop := LAg n tx lc code value codes cl tf sf st x y ∨ LAb n tx code value codes cl tf sf st x y
theorem FRM.trans {tx : Nat} {a1 a2 a3 a4 a5 a6 a7 b1 b2 b3 b4 b5 b6 b7 c1 c2 c3 c4 c5 c6 c7 : Nat → Int32} (h : FRM tx a1 a2 a3 a4 a5 a6 a7 b1 b2 b3 b4 b5 b6 b7) (g : FRM tx b1 b2 b3 b4 b5 b6 b7 c1 c2 c3 c4 c5 c6 c7) : FRM tx a1 a2 a3 a4 a5 a6 a7 c1 c2 c3 c4 c5 c6 c7 := by
  obtain ⟨h1, h2, h3⟩ := h
  obtain ⟨g1, g2, g3⟩ := g
  refine ⟨fun i hi => ⟨(g1 i hi).1.trans (h1 i hi).1, (g1 i hi).2.trans (h1 i hi).2⟩, fun i hi => ⟨(g2 i hi).1.trans (h2 i hi).1, (g2 i hi).2.trans (h2 i hi).2⟩, fun i hi => ⟨(g3 i hi).1.trans (h3 i hi).1, (g3 i hi).2.1.trans (h3 i hi).2.1, (g3 i hi).2.2.trans (h3 i hi).2.2⟩⟩
section LR
variable {n : Nat} {t u llT : Nat → Int32}
theorem YX_le : ∀ (A : List Cl), (YS A).length + A.length ≤ (XS A).length
  | [] => Nat.le_refl _
  | C :: A => by
    have ih := YX_le A
    have e1 : (YS (C :: A)).length = (C.1 ++ C.2).length + (YS A).length := by show ((C.1 ++ C.2) ++ YS A).length = _; rw [List.length_append]
    have e2 : (XS (C :: A)).length = (XL C.1 C.2).length + (XS A).length := by show (XL C.1 C.2 ++ XS A).length = _; rw [List.length_append]
    have e3 : (C.1 ++ C.2).length = C.1.length + C.2.length := List.length_append
    have e4 : (XL C.1 C.2).length ≥ C.1.length + C.2.length + 1 := by
      by_cases q : C.1 = []
      · rw [q, XL_0l]; show _ ≥ 0 + _ + 1; omega
      · rw [XL_1l q]; omega
    have e5 : (C :: A).length = A.length + 1 := rfl
    omega
theorem la_l (hn : n ≤ 240) (h : RT n t u) (tb : LT6 llT) {tx : Nat} {lc code value codes0 cl0 tf0 sf0 st0 : Nat → Int32} (htx : tx ≤ 4) : ∀ (j a : Nat) (CS : List Cl) (codes cl tf sf st : Nat → Int32), n < a + j → a ≤ n → (XS CS).length ≤ a → 3 * CS.length ≤ a → (∀ C, C ∈ CS → OKC C) → codes tx = nI (YS CS).length → cl tx = nI CS.length → WR tf sf st (140 * tx) 0 CS → FRM tx code value codes0 cl0 tf0 sf0 st0 (ap tc code (520 * tx) (YS CS)) (ap tv value (520 * tx) (YS CS)) codes cl tf sf st → ∀ kx ky, j ≤ kx → j ≤ ky → LAO n tx lc code value codes0 cl0 tf0 sf0 st0 (f_X1_readsAll_15 (nI n) t llT kx (nI a) (nI (XS CS).length) (ap cs lc 0 (XS CS)) (nI CS.length)) (ob10 (f_X12_clause (nI n) (nI tx) u (nI a) (mI 1) (nI 0) (ap tc code (520 * tx) (YS CS)) (ap tv value (520 * tx) (YS CS)) codes cl tf sf st) fun a5 w6 d7 c8 v9 cc10 cl11 tf12 sf13 st14 => f_X12_readLaw_9 (nI n) u ky a5 w6 d7 (nI tx) c8 v9 cc10 cl11 tf12 sf13 st14)
  | 0, a, CS, codes, cl, tf, sf, st, hj, ha, h1, h2, h3, h4, h5, h6, h7, kx, ky, hkx, hky => by omega
  | j + 1, a, CS, codes, cl, tf, sf, st, hj, ha, h1, h2, h3, h4, h5, h6, h7, kx, ky, hkx, hky => by
    obtain ⟨kx, rfl⟩ : ∃ k, kx = k + 1 := ⟨kx - 1, by omega⟩
    obtain ⟨ky, rfl⟩ : ∃ k, ky = k + 1 := ⟨ky - 1, by omega⟩
    have hyx := YX_le CS
    have hlim : ¬ ((240 : Int32) < nI CS.length) := by rw [lit_nI, nI_ltI (by omega) (by omega)]; exact Nat.not_lt.mpr (by omega)
    have uy : ∀ k x1 x2 x3 x4 x5 x6 x7 x8 x9 y1 y2, f_X12_readLaw_9 (nI n) u (k + 1) x1 x2 x3 x4 x5 x6 x7 x8 x9 y1 y2 = b_X12_readLaw_9 (nI n) u (f_X12_readLaw_9 (nI n) u k) x1 x2 x3 x4 x5 x6 x7 x8 x9 y1 y2 := fun _ _ _ _ _ _ _ _ _ _ _ _ => rfl
    rw [show f_X1_readsAll_15 (nI n) t llT (kx + 1) (nI a) (nI (XS CS).length) (ap cs lc 0 (XS CS)) (nI CS.length) = b_X1_readsAll_15 (nI n) t llT (f_X1_readsAll_15 (nI n) t llT kx) (nI a) (nI (XS CS).length) (ap cs lc 0 (XS CS)) (nI CS.length) from rfl]
    unfold b_X1_readsAll_15
    rw [if_neg hlim]
    rcases clause_o hn h tb (tx := tx) (k := CS.length) (s := (XS CS).length) (s' := (YS CS).length) (a := a) (lc := ap cs lc 0 (XS CS)) (code := ap tc code (520 * tx) (YS CS)) (value := ap tv value (520 * tx) (YS CS)) (codes := codes) (cl := cl) (tf := tf) (sf := sf) (st := st) htx (by omega) h5 ha h1 (by omega) h4 with ⟨a2, hS, T, S, g1, g2, g3, g4, g5, g6, g7, g8⟩ | ⟨a2, x1, x2, p, q, code2, value2, codes2, cl2, tf2, sf2, st2, g1, g2, g3, g4⟩
    · have eX : XS (CS ++ [(T, S)]) = XS CS ++ XL T S := XS_sn CS (T, S)
      have eY : YS (CS ++ [(T, S)]) = YS CS ++ (T ++ S) := YS_sn CS (T, S)
      have lX : (XS (CS ++ [(T, S)])).length = (XS CS).length + (XL T S).length := by rw [eX, List.length_append]
      have lY : (YS (CS ++ [(T, S)])).length = (YS CS).length + (T ++ S).length := by rw [eY, List.length_append]
      have lC : (CS ++ [(T, S)]).length = CS.length + 1 := by rw [List.length_append]; rfl
      have aX : ap cs (ap cs lc 0 (XS CS)) (XS CS).length (XL T S) = ap cs lc 0 (XS (CS ++ [(T, S)])) := by
        rw [eX, ← ap_app, Nat.zero_add]
      have aY : ap tc (ap tc code (520 * tx) (YS CS)) (520 * tx + (YS CS).length) (T ++ S) = ap tc code (520 * tx) (YS (CS ++ [(T, S)])) := by rw [eY]; exact ap_app tc (YS CS) (T ++ S) code (520 * tx)
      have aV : ap tv (ap tv value (520 * tx) (YS CS)) (520 * tx + (YS CS).length) (T ++ S) = ap tv value (520 * tx) (YS (CS ++ [(T, S)])) := by rw [eY]; exact ap_app tv (YS CS) (T ++ S) value (520 * tx)
      have hyx2 := YX_le (CS ++ [(T, S)])
      rw [← lX, aX] at g7
      rw [← lY, aY, aV, ← lC] at g8
      have hok : ∀ C, C ∈ CS ++ [(T, S)] → OKC C := by
        intro C hC
        rcases List.mem_append.mp hC with q | q
        · exact h3 C q
        · rw [List.mem_singleton.mp q]
          exact ⟨⟨hS, g5, g4⟩, g6⟩
      have hW : WR (upd tf (140 * tx + CS.length) (nI (YS CS).length)) (upd sf (140 * tx + CS.length) (nI ((YS CS).length + T.length))) (upd st (140 * tx + CS.length) (nI (YS (CS ++ [(T, S)])).length)) (140 * tx) 0 (CS ++ [(T, S)]) := by
        refine WR_sn CS (140 * tx) 0 h6 (fun i q1 q2 => ?_) ?_ ?_ ?_
        · rw [upd_n (by omega), upd_n (by omega), upd_n (by omega)]; exact ⟨rfl, rfl, rfl⟩
        · rw [upd_s, Nat.zero_add]
        · rw [upd_s, Nat.zero_add]
        · rw [upd_s, Nat.zero_add, lY]
      have hF : FRM tx code value codes0 cl0 tf0 sf0 st0 (ap tc code (520 * tx) (YS (CS ++ [(T, S)]))) (ap tv value (520 * tx) (YS (CS ++ [(T, S)]))) (upd codes tx (nI (YS (CS ++ [(T, S)])).length)) (upd cl tx (nI (CS ++ [(T, S)]).length)) (upd tf (140 * tx + CS.length) (nI (YS CS).length)) (upd sf (140 * tx + CS.length) (nI ((YS CS).length + T.length))) (upd st (140 * tx + CS.length) (nI (YS (CS ++ [(T, S)])).length)) := by
        refine h7.trans ⟨fun i hi => ?_, fun i hi => ?_, fun i hi => ?_⟩
        · rw [← aY, ← aV]; exact ⟨ap_out tc _ _ _ (by omega), ap_out tv _ _ _ (by omega)⟩
        · rw [upd_n hi, upd_n hi]; exact ⟨rfl, rfl⟩
        · rw [upd_n (by omega), upd_n (by omega), upd_n (by omega)]; exact ⟨rfl, rfl, rfl⟩
      rw [g7, g8, ob4_e, ob10_e, if_neg (show ¬ nI 1 = (0 : Int32) by decide), uy]
      obtain ⟨a3, c3, r1, r2, r3, r4, r5, r6, r7⟩ := sg_c hn h g2
      rcases r7 with ⟨ec, en⟩ | ⟨b, b0, b1, b2, ec, hb, et, eu⟩
      · subst ec
        subst en
        refine Or.inl ⟨CS ++ [(T, S)], _, _, _, _, _, hok, by omega, by omega, by omega, ?_, ?_, upd_s, hW, hF⟩
        · simp (disch := omega) only [r3, neg_nI, lit_nI, nI_add, pk_mul, pk_sub, nI_clamp, inB_nI, gd_true, bnd_def, nI_leI, nI_ltI, nI_eq, nI_mI, mI_nI, nle_T, nle_F, nlt_T, nlt_F, neq_T, neq_F, ↓reduceIte, Nat.add_zero, Nat.zero_add, Nat.mul_zero, Nat.reduceAdd, Nat.reduceMul, Nat.reduceSub, ob1_e, ob2_e, ob3_e, ob4_e, ob6_e]
        · simp (disch := omega) only [b_X12_readLaw_9, b_X12_readLaw_43, f_X12_atEnd, b_X12_atEnd_0, b_X12_atEnd_20, r4, r6, ob3_e, neg_nI, lit_nI, nI_add, pk_mul, pk_sub, nI_clamp, inB_nI, gd_true, bnd_def, nI_leI, nI_ltI, nI_eq, nI_mI, mI_nI, nle_T, nle_F, nlt_T, nlt_F, neq_T, neq_F, ↓reduceIte, Nat.add_zero, Nat.zero_add, Nat.mul_zero, Nat.reduceAdd, Nat.reduceMul, Nat.reduceSub, ob1_e, ob2_e, ob3_e, ob4_e, ob6_e]
      · subst ec
        by_cases q : b = 59
        · subst q
          have ih := la_l (lc := lc) (code := code) (value := value) (codes0 := codes0) (cl0 := cl0) (tf0 := tf0) (sf0 := sf0) (st0 := st0) hn h tb htx j (a3 + 1) (CS ++ [(T, S)]) _ _ _ _ _ (by omega) (by omega) (by omega) (by omega) hok upd_s upd_s hW hF kx ky (by omega) (by omega)
          rw [lC] at ih ⊢
          have ex : (ob2 (f_X10_sign (nI n) t (nI a2)) fun r_6 tape_at_7 => if r_6 = (-1 : Int32) then some ((1 : Int32), tape_at_7, nI (XS (CS ++ [(T, S)])).length, ap cs lc 0 (XS (CS ++ [(T, S)]))) else ob2 (f_X10_take (nI n) t tape_at_7 (59 : Int32)) fun r_9 tape_at_10 => if r_9 = (0 : Int32) then some ((0 : Int32), tape_at_10, nI (XS (CS ++ [(T, S)])).length, ap cs lc 0 (XS (CS ++ [(T, S)]))) else bnd (nI CS.length + (1 : Int32)) fun v1_12 => f_X1_readsAll_15 (nI n) t llT kx tape_at_10 (nI (XS (CS ++ [(T, S)])).length) (ap cs lc 0 (XS (CS ++ [(T, S)]))) v1_12) = f_X1_readsAll_15 (nI n) t llT kx (nI (a3 + 1)) (nI (XS (CS ++ [(T, S)])).length) (ap cs lc 0 (XS (CS ++ [(T, S)]))) (nI (CS.length + 1)) := by
            simp (disch := omega) only [r3, f_X10_take, b_X10_take_0, r5, neg_nI, lit_nI, nI_add, pk_mul, pk_sub, nI_clamp, inB_nI, gd_true, bnd_def, nI_leI, nI_ltI, nI_eq, nI_mI, mI_nI, nle_T, nle_F, nlt_T, nlt_F, neq_T, neq_F, ↓reduceIte, Nat.add_zero, Nat.zero_add, Nat.mul_zero, Nat.reduceAdd, Nat.reduceMul, Nat.reduceSub, ob1_e, ob2_e, ob3_e, ob4_e, ob6_e]
          have ey : ∀ cdN clN tfN sfN stN, b_X12_readLaw_9 (nI n) u (f_X12_readLaw_9 (nI n) u ky) (nI a2) (mI 1) (nI 0) (nI tx) (ap tc code (520 * tx) (YS (CS ++ [(T, S)]))) (ap tv value (520 * tx) (YS (CS ++ [(T, S)]))) cdN clN tfN sfN stN = ob10 (f_X12_clause (nI n) (nI tx) u (nI (a3 + 1)) (mI 1) (nI 0) (ap tc code (520 * tx) (YS (CS ++ [(T, S)]))) (ap tv value (520 * tx) (YS (CS ++ [(T, S)]))) cdN clN tfN sfN stN) fun a5 w6 d7 c8 v9 cc10 cl11 tf12 sf13 st14 => f_X12_readLaw_9 (nI n) u ky a5 w6 d7 (nI tx) c8 v9 cc10 cl11 tf12 sf13 st14 := by
            intro cdN clN tfN sfN stN
            simp (disch := omega) only [b_X12_readLaw_9, r4, neg_nI, lit_nI, nI_add, pk_mul, pk_sub, nI_clamp, inB_nI, gd_true, bnd_def, nI_leI, nI_ltI, nI_eq, nI_mI, mI_nI, nle_T, nle_F, nlt_T, nlt_F, neq_T, neq_F, ↓reduceIte, Nat.add_zero, Nat.zero_add, Nat.mul_zero, Nat.reduceAdd, Nat.reduceMul, Nat.reduceSub, ob1_e, ob2_e, ob3_e, ob4_e, ob6_e]
          rw [ey]
          exact ex ▸ ih
        · refine Or.inr ⟨a3, nI (XS (CS ++ [(T, S)])).length, ap cs lc 0 (XS (CS ++ [(T, S)])), nI a3, nI 0, _, _, _, _, _, _, _, r2, ?_, ?_, hF⟩
          · simp (disch := omega) only [r3, f_X10_take, b_X10_take_0, r5, neg_nI, lit_nI, nI_add, pk_mul, pk_sub, nI_clamp, inB_nI, gd_true, bnd_def, nI_leI, nI_ltI, nI_eq, nI_mI, mI_nI, nle_T, nle_F, nlt_T, nlt_F, neq_T, neq_F, ↓reduceIte, Nat.add_zero, Nat.zero_add, Nat.mul_zero, Nat.reduceAdd, Nat.reduceMul, Nat.reduceSub, ob1_e, ob2_e, ob3_e, ob4_e, ob6_e]
          · simp (disch := omega) only [b_X12_readLaw_9, b_X12_readLaw_43, f_X12_atEnd, b_X12_atEnd_0, b_X12_atEnd_20, r4, r6, bad_n, ob3_e, neg_nI, lit_nI, nI_add, pk_mul, pk_sub, nI_clamp, inB_nI, gd_true, bnd_def, nI_leI, nI_ltI, nI_eq, nI_mI, mI_nI, nle_T, nle_F, nlt_T, nlt_F, neq_T, neq_F, ↓reduceIte, Nat.add_zero, Nat.zero_add, Nat.mul_zero, Nat.reduceAdd, Nat.reduceMul, Nat.reduceSub, ob1_e, ob2_e, ob3_e, ob4_e, ob6_e]
    · refine Or.inr ⟨a2, x1, x2, p, q, code2, value2, codes2, cl2, tf2, sf2, st2, g1, ?_, ?_, h7.trans g4⟩
      · rw [g2, ob4_e, if_pos (show nI 0 = (0 : Int32) from rfl)]; rfl
      · rw [g3, ob10_e, uy]
        simp (disch := omega) only [b_X12_readLaw_9, b_X12_readLaw_43, f_X12_atEnd, b_X12_atEnd_0, b_X12_atEnd_20, ob3_e, neg_nI, lit_nI, nI_add, pk_mul, pk_sub, nI_clamp, inB_nI, gd_true, bnd_def, nI_leI, nI_ltI, nI_eq, nI_mI, mI_nI, nle_T, nle_F, nlt_T, nlt_F, neq_T, neq_F, ↓reduceIte, Nat.add_zero, Nat.zero_add, Nat.mul_zero, Nat.reduceAdd, Nat.reduceMul, Nat.reduceSub, ob1_e, ob2_e, ob3_e, ob4_e, ob6_e]
/-- a law by both -/
theorem s_readLaw (hn : n ≤ 240) (h : RT n t u) (tb : LT6 llT) {tx : Nat} (htx : tx ≤ 4) (x1 x2 y1 y2 y3 y4 : Int32) (lc code value codes cl tf sf st : Nat → Int32) : LAO n tx lc code value codes cl tf sf st (f_X1_readsAll (nI n) t llT x1 x2 lc) (f_X12_readLaw (nI n) u y1 y2 y3 y4 code value codes cl tf sf st (nI tx)) := by
  have hf := fu_le
  have hF : FRM tx code value codes cl tf sf st code value (upd codes tx (nI 0)) (upd cl tx (nI 0)) tf sf st := ⟨fun _ _ => ⟨rfl, rfl⟩, fun i hi => ⟨upd_n hi, upd_n hi⟩, fun _ _ => ⟨rfl, rfl, rfl⟩⟩
  have := la_l (lc := lc) (code := code) (value := value) (codes0 := codes) (cl0 := cl) (tf0 := tf) (sf0 := sf) (st0 := st) hn h tb htx (n + 1) 0 [] (upd codes tx (nI 0)) (upd cl tx (nI 0)) tf sf st (by omega) (by omega) (Nat.le_refl _) (Nat.le_refl _) (fun C hC => by cases hC) upd_s upd_s trivial hF fu fu (by omega) (by omega)
  have ey : f_X12_readLaw (nI n) u y1 y2 y3 y4 code value codes cl tf sf st (nI tx) = ob10 (f_X12_clause (nI n) (nI tx) u (nI 0) (mI 1) (nI 0) code value (upd codes tx (nI 0)) (upd cl tx (nI 0)) tf sf st) fun a5 w6 d7 c8 v9 cc10 cl11 tf12 sf13 st14 => f_X12_readLaw_9 (nI n) u fu a5 w6 d7 (nI tx) c8 v9 cc10 cl11 tf12 sf13 st14 := by
    simp (disch := omega) only [f_X12_readLaw, b_X12_readLaw_0, f_X12_open, b_X12_open_0, neg_nI, lit_nI, nI_add, pk_mul, pk_sub, nI_clamp, inB_nI, gd_true, bnd_def, nI_leI, nI_ltI, nI_eq, nI_mI, mI_nI, nle_T, nle_F, nlt_T, nlt_F, neq_T, neq_F, ↓reduceIte, Nat.add_zero, Nat.zero_add, Nat.mul_zero, Nat.reduceAdd, Nat.reduceMul, Nat.reduceSub, ob1_e, ob2_e, ob3_e, ob4_e, ob6_e]
  rw [ey]
  exact this
end LR
