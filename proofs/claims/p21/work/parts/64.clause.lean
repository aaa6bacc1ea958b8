/-! clauses of a law by both -/
abbrev ZT : Type := Int32 × Int32 × Int32 × (Nat → Int32) × (Nat → Int32) × (Nat → Int32) × (Nat → Int32) × (Nat → Int32) × (Nat → Int32) × (Nat → Int32)
def pre : List Tok → List Tok
  | [] => []
  | x :: r => (x :: r) ++ [(13, 0)]
def XL (T S : List Tok) : List Tok := pre T ++ (S ++ [(14, 0)])
theorem pre_ne {T : List Tok} (h : T ≠ []) : pre T = T ++ [(13, 0)] := by
  cases T with
  | nil => exact absurd rfl h
  | cons x r => rfl
theorem Ex.len {L : List Tok} {h : Nat} (e : Ex L h) : 0 < L.length := e (fun L _ => 0 < L.length) (fun _ _ => Nat.one_pos) (fun _ _ => Nat.one_pos) (fun k A B x y _ _ _ => by rw [len3]; omega) (fun A x _ => by rw [len2]; omega)
theorem Ex.ne {L : List Tok} {h : Nat} (e : Ex L h) : L ≠ [] := by
  intro q
  have := e.len
  rw [q] at this
  exact absurd this (by decide)
theorem XL_0 {S : List Tok} : XL [] S = S ++ [(14, 0)] := rfl
theorem XL_1 {T S : List Tok} (h : T ≠ []) : XL T S = T ++ [(13, 0)] ++ (S ++ [(14, 0)]) := by unfold XL; rw [pre_ne h]
theorem XL_0l {S : List Tok} : (XL [] S).length = S.length + 1 := by rw [XL_0, len2]
theorem XL_1l {T S : List Tok} (h : T ≠ []) : (XL T S).length = T.length + S.length + 2 := by
  rw [XL_1 h]; simp only [List.length_append, List.length_singleton]; omega
theorem upd_s {f : Nat → Int32} {k : Nat} {x : Int32} : upd f k x k = x := upd_y rfl
def FRM (tx : Nat) (code value codes cl tf sf st code2 value2 codes2 cl2 tf2 sf2 st2 : Nat → Int32) : Prop := (∀ i, (i < 520 * tx ∨ 520 * tx + 520 ≤ i) → code2 i = code i ∧ value2 i = value i) ∧ (∀ i, i ≠ tx → codes2 i = codes i ∧ cl2 i = cl i) ∧ ∀ i, (i < 140 * tx ∨ 140 * tx + 140 ≤ i) → tf2 i = tf i ∧ sf2 i = sf i ∧ st2 i = st i
def CLb (n tx : Nat) (code value codes cl tf sf st : Nat → Int32) (x : Option XT) (y : Option ZT) : Prop := ∃ (a : Nat) (x1 : Int32) (x2 : Nat → Int32) (p q : Int32) (code2 value2 codes2 cl2 tf2 sf2 st2 : Nat → Int32), a ≤ n ∧ x = some (nI 0, nI a, x1, x2) ∧ y = some (p, nI a, q, code2, value2, codes2, cl2, tf2, sf2, st2) ∧ FRM tx code value codes cl tf sf st code2 value2 codes2 cl2 tf2 sf2 st2
def CLg (n tx k s s' a0 : Nat) (lc code value codes cl tf sf st : Nat → Int32) (x : Option XT) (y : Option ZT) : Prop := ∃ (a hS : Nat) (T S : List Tok), a0 + 3 ≤ a ∧ a ≤ n ∧ a0 + (XL T S).length ≤ a ∧ Ex S hS ∧ hS ≤ 20 ∧ (T = [] ∨ ∃ hT, hT ≤ 20 ∧ Ex T hT) ∧ x = some (nI 1, nI a, nI (s + (XL T S).length), ap cs lc s (XL T S)) ∧ y = some (nI a, mI 1, nI 0, ap tc code (520 * tx + s') (T ++ S), ap tv value (520 * tx + s') (T ++ S), upd codes tx (nI (s' + (T ++ S).length)), upd cl tx (nI (k + 1)), upd tf (140 * tx + k) (nI s'), upd sf (140 * tx + k) (nI (s' + T.length)), upd st (140 * tx + k) (nI (s' + (T ++ S).length)))
def CLO (n tx k s s' a0 : Nat) (lc code value codes cl tf sf st : Nat → Int32) (x : Option XT) (y : Option ZT) : Prop := CLg n tx k s s' a0 lc code value codes cl tf sf st x y ∨ CLb n tx code value codes cl tf sf st x y
section CL
variable {n : Nat} {t u llT : Nat → Int32}
theorem c251 {tx p : Nat} {A W D : Int32} {code value codes cl tf sf st : Nat → Int32} (ht : tx ≤ 4) (hp : p < 700) : b_X12_clause_251 (nI n) (nI tx) u A W D code value codes cl tf sf st (nI p) = some (A, W, D, code, value, codes, upd cl tx (cl tx + nI 1), tf, sf, upd st p (codes tx)) := by
  simp (disch := omega) only [b_X12_clause_251, neg_nI, lit_nI, nI_add, pk_mul, pk_sub, nI_clamp, inB_nI, gd_true, bnd_def, nI_leI, nI_ltI, nI_eq, nI_mI, mI_nI, nle_T, nle_F, nlt_T, nlt_F, neq_T, neq_F, ↓reduceIte, Nat.add_zero, Nat.zero_add, Nat.mul_zero, Nat.reduceAdd, Nat.reduceMul, Nat.reduceSub, ob1_e, ob2_e, ob3_e, ob4_e, ob6_e]
theorem c184_0 {tx p : Nat} {A W D : Int32} {code value codes cl tf sf st : Nat → Int32} (ht : tx ≤ 4) (hp : p < 700) : b_X12_clause_184 (nI n) (nI tx) u A W D code value codes cl tf sf st (nI p) (nI 0) = some (A, W, D, code, value, codes, upd cl tx (cl tx + nI 1), tf, upd sf p (tf p), upd st p (codes tx)) := by
  simp (disch := omega) only [b_X12_clause_184, c251, neg_nI, lit_nI, nI_add, pk_mul, pk_sub, nI_clamp, inB_nI, gd_true, bnd_def, nI_leI, nI_ltI, nI_eq, nI_mI, mI_nI, nle_T, nle_F, nlt_T, nlt_F, neq_T, neq_F, ↓reduceIte, Nat.add_zero, Nat.zero_add, Nat.mul_zero, Nat.reduceAdd, Nat.reduceMul, Nat.reduceSub, ob1_e, ob2_e, ob3_e, ob4_e, ob6_e]
theorem c184_w {tx p w : Nat} {A D : Int32} {code value codes cl tf sf st : Nat → Int32} (ht : tx ≤ 4) (hp : p < 700) (hw : w ≤ 240) : b_X12_clause_184 (nI n) (nI tx) u A (nI w) D code value codes cl tf sf st (nI p) (nI 1) = some (A, nI w, D, code, value, codes, upd cl tx (cl tx + nI 1), tf, upd sf p (tf p), upd st p (codes tx)) := by
  simp (disch := omega) only [b_X12_clause_184, c251, neg_nI, lit_nI, nI_add, pk_mul, pk_sub, nI_clamp, inB_nI, gd_true, bnd_def, nI_leI, nI_ltI, nI_eq, nI_mI, mI_nI, nle_T, nle_F, nlt_T, nlt_F, neq_T, neq_F, ↓reduceIte, Nat.add_zero, Nat.zero_add, Nat.mul_zero, Nat.reduceAdd, Nat.reduceMul, Nat.reduceSub, ob1_e, ob2_e, ob3_e, ob4_e, ob6_e]
/-- behind a condition: its ? and a sum -/
theorem qu_o (hn : n ≤ 240) (h : RT n t u) (tb : LT6 llT) {tx k s s' a0 a hT : Nat} {lc code value codes cl tf sf st : Nat → Int32} {T : List Tok} (htx : tx ≤ 4) (hk : k < 140) (hcl : cl tx = nI k) (ha : a ≤ n) (h2 : a0 + 2 + T.length ≤ a) (hs : s ≤ a0) (hs' : s' ≤ a0) (eT : Ex T hT) (hhT : hT ≤ 20) (hc : codes tx = nI s') : CLO n tx k s s' a0 lc code value codes cl tf sf st (b_X1_readsClause_126 (nI n) t llT (nI a) (nI (s + T.length)) (ap cs lc s T) (nI 1)) (b_X12_clause_184 (nI n) (nI tx) u (nI a) (mI 1) (nI 0) (ap tc code (520 * tx + s') T) (ap tv value (520 * tx + s') T) (upd codes tx (nI (s' + T.length))) cl (upd tf (140 * tx + k) (nI s')) sf st (nI (140 * tx + k)) (nI 1)) := by
  obtain ⟨a1, c, s1, s2, s3, s4, s5, s6, s7⟩ := sg_c hn h ha
  by_cases q63 : c = nI 63
  · subst q63
    have hlt : a1 < n := by
      rcases s7 with ⟨e, _⟩ | ⟨_, _, _, _, _, e, _⟩
      · exact absurd e (nI_nm (by omega))
      · exact e
    have e1 := ap2 (f := cs) (r := lc) (o := s) (o1 := s + T.length) (A := T) (x := (13, 0)) (v := mI 12) rfl (by decide)
    have hX : b_X1_readsClause_126 (nI n) t llT (nI a) (nI (s + T.length)) (ap cs lc s T) (nI 1) = ob4 (f_X1_readsSum 60 (nI n) t llT (nI (a1 + 1)) (nI (s + T.length + 1)) (ap cs lc s (T ++ [(13, 0)])) (nI 0)) fun r_8 at9 s10 c11 => if r_8 = nI 0 then some (nI 0, at9, s10, c11) else b_X1_readsClause_161 (nI n) t llT at9 s10 c11 := by
      simp (disch := omega) only [b_X1_readsClause_126, f_X10_take, b_X10_take_0, s3, putX, e1, neg_nI, lit_nI, nI_add, pk_mul, pk_sub, nI_clamp, inB_nI, gd_true, bnd_def, nI_leI, nI_ltI, nI_eq, nI_mI, mI_nI, nle_T, nle_F, nlt_T, nlt_F, neq_T, neq_F, ↓reduceIte, Nat.add_zero, Nat.zero_add, Nat.mul_zero, Nat.reduceAdd, Nat.reduceMul, Nat.reduceSub, ob1_e, ob2_e, ob3_e, ob4_e, ob6_e]
    have hY : b_X12_clause_184 (nI n) (nI tx) u (nI a) (mI 1) (nI 0) (ap tc code (520 * tx + s') T) (ap tv value (520 * tx + s') T) (upd codes tx (nI (s' + T.length))) cl (upd tf (140 * tx + k) (nI s')) sf st (nI (140 * tx + k)) (nI 1) = ob6 (f_X12_sum 60 (nI n) (nI tx) u (nI (a1 + 1)) (mI 1) (nI 0) (ap tc code (520 * tx + s') T) (ap tv value (520 * tx + s') T) (upd codes tx (nI (s' + T.length)))) fun p w q c2 v3 cc => b_X12_clause_251 (nI n) (nI tx) u p w q c2 v3 cc cl (upd tf (140 * tx + k) (nI s')) (upd sf (140 * tx + k) (nI (s' + T.length))) st (nI (140 * tx + k)) := by
      simp (disch := omega) only [b_X12_clause_184, s4, upd_s, upd_upd, neg_nI, lit_nI, nI_add, pk_mul, pk_sub, nI_clamp, inB_nI, gd_true, bnd_def, nI_leI, nI_ltI, nI_eq, nI_mI, mI_nI, nle_T, nle_F, nlt_T, nlt_F, neq_T, neq_F, ↓reduceIte, Nat.add_zero, Nat.zero_add, Nat.mul_zero, Nat.reduceAdd, Nat.reduceMul, Nat.reduceSub, ob1_e, ob2_e, ob3_e, ob4_e, ob6_e]
    rw [hX, hY]
    rcases sum60 hn h tb (dp := 0) (by omega) (a1 + 1) (s + T.length + 1) (s' + T.length) tx (ap cs lc s (T ++ [(13, 0)])) (ap tc code (520 * tx + s') T) (ap tv value (520 * tx + s') T) (upd codes tx (nI (s' + T.length))) (by omega) (by omega) (by omega) htx (upd_y rfl) with ⟨L, a2, hh, g1, g2, g3, g4, g5, g6, g7⟩ | ⟨a2, c2, x1, x2, p, q, code2, value2, codes2, g1, g2, g3, g4, g5, g6, g7⟩
    · have hl := XL_1l (T := T) (S := L) eT.ne
      have e2 : upd (ap cs (ap cs lc s (T ++ [(13, 0)])) (s + T.length + 1) L) (s + T.length + 1 + L.length) (mI 13) = ap cs lc s (XL T L) := by
        rw [XL_1 eT.ne]
        exact ap3 (by rw [len2]; omega) (by rw [len2]; omega) (by decide)
      have e3 : ap tc (ap tc code (520 * tx + s') T) (520 * tx + (s' + T.length)) L = ap tc code (520 * tx + s') (T ++ L) := by rw [← ap_app, Nat.add_assoc]
      have e4 : ap tv (ap tv value (520 * tx + s') T) (520 * tx + (s' + T.length)) L = ap tv value (520 * tx + s') (T ++ L) := by rw [← ap_app, Nat.add_assoc]
      have hll : (T ++ L).length = T.length + L.length := List.length_append
      refine Or.inl ⟨a2, hh, T, L, by omega, g2, by omega, g4, by omega, Or.inr ⟨hT, hhT, eT⟩, ?_, ?_⟩
      · rw [g6, ob4_e, if_neg (by decide), hl]
        unfold b_X1_readsClause_161
        rw [show (-13 : Int32) = mI 13 from rfl, putX (by omega), ob3_e, isZ_1, gd_true, e2, show s + T.length + 1 + L.length + 1 = s + (T.length + L.length + 2) by omega]
      · rw [g7, ob6_e, c251 htx (by omega), e3, e4, upd_upd, upd_s, hcl, nI_add, hll, Nat.add_assoc s' T.length L.length]
    · refine Or.inr ⟨a2, x1, x2, p, q, code2, value2, codes2, upd cl tx (cl tx + nI 1), upd tf (140 * tx + k) (nI s'), upd sf (140 * tx + k) (nI (s' + T.length)), upd st (140 * tx + k) (codes2 tx), g1, ?_, ?_, ?_, ?_, ?_⟩
      · rw [g2, ob4_e, if_pos rfl]
      · rw [g3, ob6_e, c251 htx (by omega)]
      · intro i hi
        obtain ⟨w1, w2⟩ := g6 i hi
        have w3 : (i < 520 * tx + s' ∨ 520 * tx + s' + T.length ≤ i) := by omega
        rw [w1, w2, ap_out _ _ _ _ w3, ap_out _ _ _ _ w3]
        exact ⟨rfl, rfl⟩
      · intro i hi
        rw [g7 i hi, upd_n hi, upd_n hi]
        exact ⟨rfl, rfl⟩
      · intro i hi
        rw [upd_n (by omega), upd_n (by omega), upd_n (by omega)]
        exact ⟨rfl, rfl, rfl⟩
  · refine Or.inr ⟨a1, nI (s + T.length), ap cs lc s T, nI a1, nI 0, ap tc code (520 * tx + s') T, ap tv value (520 * tx + s') T, upd codes tx (nI (s' + T.length)), cl, upd tf (140 * tx + k) (nI s'), upd sf (140 * tx + k) (nI s'), st, s2, ?_, ?_, ?_, ?_, ?_⟩
    · simp (disch := omega) only [b_X1_readsClause_126, f_X10_take, b_X10_take_0, s3, q63, neg_nI, lit_nI, nI_add, pk_mul, pk_sub, nI_clamp, inB_nI, gd_true, bnd_def, nI_leI, nI_ltI, nI_eq, nI_mI, mI_nI, nle_T, nle_F, nlt_T, nlt_F, neq_T, neq_F, ↓reduceIte, Nat.add_zero, Nat.zero_add, Nat.mul_zero, Nat.reduceAdd, Nat.reduceMul, Nat.reduceSub, ob1_e, ob2_e, ob3_e, ob4_e, ob6_e]
    · simp (disch := omega) only [b_X12_clause_184, s4, q63, upd_s, bad_n, neg_nI, lit_nI, nI_add, pk_mul, pk_sub, nI_clamp, inB_nI, gd_true, bnd_def, nI_leI, nI_ltI, nI_eq, nI_mI, mI_nI, nle_T, nle_F, nlt_T, nlt_F, neq_T, neq_F, ↓reduceIte, Nat.add_zero, Nat.zero_add, Nat.mul_zero, Nat.reduceAdd, Nat.reduceMul, Nat.reduceSub, ob1_e, ob2_e, ob3_e, ob4_e, ob6_e]
    · intro i hi
      have w3 : (i < 520 * tx + s' ∨ 520 * tx + s' + T.length ≤ i) := by omega
      rw [ap_out _ _ _ _ w3, ap_out _ _ _ _ w3]
      exact ⟨rfl, rfl⟩
    · intro i hi
      rw [upd_n hi]
      exact ⟨rfl, rfl⟩
    · intro i hi
      rw [upd_n (by omega), upd_n (by omega)]
      exact ⟨rfl, rfl, rfl⟩
end CL
