/-! rows of tokens are worked out alike by both -/
def tpX (k : Nat) : Int32 := if k = 0 then mI 1 else nI (k - 1)
theorem tpX_1 (k : Nat) (h : k < 1000) : tpX k + nI 1 = nI k := by
  unfold tpX
  by_cases e : k = 0
  · rw [if_pos e, e]; decide
  · rw [if_neg e, nI_add]; congr 1; omega
theorem add_m1 {k : Nat} (h : k < 1000) : nI (k + 1) + mI 1 = nI k := by
  apply Int32.toInt_inj.mp
  rw [Int32.toInt_add, nI_toInt (by omega), mI_toInt (by omega), nI_toInt (by omega), Int.bmod_eq_of_le (by omega) (by omega)]
  omega
theorem le_nm {a q : Nat} (h : a < 2 ^ 30 ∧ 0 < q ∧ q < 2 ^ 30) : (nI a ≤ mI q) = False := by
  refine eq_false ?_
  rw [le32, nI_toInt (by omega), mI_toInt (by omega)]
  omega
theorem lt_mn {a q : Nat} (h : a < 2 ^ 30 ∧ 0 < q ∧ q < 2 ^ 30) : (mI q < nI a) = True := by
  refine eq_true ?_
  rw [lt32, nI_toInt (by omega), mI_toInt (by omega)]
  omega
theorem lt_mm {a b : Nat} (h : a < 2 ^ 30 ∧ b < 2 ^ 30) : (mI a < mI b) = (b < a) := by
  apply propext
  rw [lt32, mI_toInt (by omega), mI_toInt (by omega)]
  omega
theorem sub_14 {l : Nat} (h : l < 6) : mI 14 - mI (14 + l) = nI l := by
  have : ∀ l, l < 6 → mI 14 - mI (14 + l) = nI l := by decide
  exact this l h
def SX (lt : Nat → Int32) (L : List Tok) (h : Nat) (v : Int32) : Prop := ∀ (ar : Nat → Int32) (f : Nat) (st : Nat → Int32) (i len k : Nat), len ≤ 241 → i + L.length ≤ len → k + h ≤ 200 → Rd cs ar i L → ∃ st', f_X2_worth_5 lt ar 241 (f + L.length) st (nI len) (tpX k) (nI i) = f_X2_worth_5 lt ar 241 f st' (nI len) (nI k) (nI (i + L.length)) ∧ st' k = v ∧ ∀ j, j < k → st' j = st j
def SY (ml : Nat → Int32) (L : List Tok) (h : Nat) (v : Int32) : Prop := ∀ (mc mv : Nat → Int32) (f : Nat) (st : Nat → Int32) (tx to i k : Nat), tx ≤ 4 → to ≤ 520 → i + L.length ≤ 520 * tx + to → k + h ≤ 80 → Rd tc mc i L → Rd tv mv i L → ∃ st', f_X12_workOut_12 mc mv ml (f + L.length) st (nI tx) (nI to) (nI k) (nI i) = f_X12_workOut_12 mc mv ml f st' (nI tx) (nI to) (nI (k + 1)) (nI (i + L.length)) ∧ st' k = v ∧ ∀ j, j < k → st' j = st j
section RU
variable {lt ml : Nat → Int32}
theorem ux5 (ar : Nat → Int32) (f : Nat) (a : Nat → Int32) (b c d : Int32) : f_X2_worth_5 lt ar 241 (f + 1) a b c d = b_X2_worth_5 lt ar 241 (f_X2_worth_5 lt ar 241 f) a b c d := rfl
theorem uy12 (mc mv : Nat → Int32) (f : Nat) (a : Nat → Int32) (b c d e : Int32) : f_X12_workOut_12 mc mv ml (f + 1) a b c d e = b_X12_workOut_12 mc mv ml (f_X12_workOut_12 mc mv ml f) a b c d e := rfl
theorem binX {ar st : Nat → Int32} {f i len k q : Nat} {r : Int32} (hl : len ≤ 241) (hi : i < len) (hk : k < 200) (hq : 2 ≤ q ∧ q ≤ 10) (e : ar i = mI q) (er : f_X2_combine (mI q) (st k).toInt64 (st (k + 1)).toInt64 = some r) : f_X2_worth_5 lt ar 241 (f + 1) st (nI len) (nI (k + 1)) (nI i) = f_X2_worth_5 lt ar 241 f (upd st k r) (nI len) (nI k) (nI (i + 1)) := by
  rw [ux5]
  simp (disch := omega) only [b_X2_worth_5, e, mI_eq, le_nm, lt_mm, b_X2_worth_138, add_m1, er, b_X2_worth_173, neg_nI, lit_nI, nI_add, pk_mul, pk_sub, nI_clamp, inB_nI, gd_true, bnd_def, nI_leI, nI_ltI, nI_eq, nI_mI, mI_nI, nle_T, nle_F, nlt_T, nlt_F, neq_T, neq_F, ↓reduceIte, Nat.add_zero, Nat.zero_add, Nat.mul_zero, Nat.reduceAdd, Nat.reduceMul, Nat.reduceSub, ob1_e, ob2_e, ob3_e, ob4_e, ob6_e]
theorem notX {ar st : Nat → Int32} {f i len k : Nat} (hl : len ≤ 241) (hi : i < len) (hk : k < 200) (e : ar i = mI 11) : f_X2_worth_5 lt ar 241 (f + 1) st (nI len) (nI k) (nI i) = f_X2_worth_5 lt ar 241 f (upd st k (nI 1 - st k)) (nI len) (nI k) (nI (i + 1)) := by
  rw [ux5]
  simp (disch := omega) only [b_X2_worth_5, e, mI_eq, le_nm, lt_mm, b_X2_worth_173, neg_nI, lit_nI, nI_add, pk_mul, pk_sub, nI_clamp, inB_nI, gd_true, bnd_def, nI_leI, nI_ltI, nI_eq, nI_mI, mI_nI, nle_T, nle_F, nlt_T, nlt_F, neq_T, neq_F, ↓reduceIte, Nat.add_zero, Nat.zero_add, Nat.mul_zero, Nat.reduceAdd, Nat.reduceMul, Nat.reduceSub, ob1_e, ob2_e, ob3_e, ob4_e, ob6_e]
theorem numX {ar st : Nat → Int32} {f i len k v : Nat} (hl : len ≤ 241) (hi : i < len) (hk : k < 200) (hv : v ≤ 9999) (e : ar i = nI v) : f_X2_worth_5 lt ar 241 (f + 1) st (nI len) (tpX k) (nI i) = f_X2_worth_5 lt ar 241 f (upd st k (nI v)) (nI len) (nI k) (nI (i + 1)) := by
  rw [ux5]
  simp (disch := omega) only [b_X2_worth_5, e, b_X2_worth_78, b_X2_worth_106, tpX_1, b_X2_worth_173, neg_nI, lit_nI, nI_add, pk_mul, pk_sub, nI_clamp, inB_nI, gd_true, bnd_def, nI_leI, nI_ltI, nI_eq, nI_mI, mI_nI, nle_T, nle_F, nlt_T, nlt_F, neq_T, neq_F, ↓reduceIte, Nat.add_zero, Nat.zero_add, Nat.mul_zero, Nat.reduceAdd, Nat.reduceMul, Nat.reduceSub, ob1_e, ob2_e, ob3_e, ob4_e, ob6_e]
theorem ltrX {ar st : Nat → Int32} {f i len k l : Nat} (hl : len ≤ 241) (hi : i < len) (hk : k < 200) (hv : l < 6) (e : ar i = mI (14 + l)) : f_X2_worth_5 lt ar 241 (f + 1) st (nI len) (tpX k) (nI i) = f_X2_worth_5 lt ar 241 f (upd st k (lt l)) (nI len) (nI k) (nI (i + 1)) := by
  rw [ux5]
  simp (disch := omega) only [b_X2_worth_5, e, mI_eq, le_nm, lt_mm, lt_mn, sub_14, b_X2_worth_78, b_X2_worth_106, tpX_1, b_X2_worth_173, neg_nI, lit_nI, nI_add, pk_mul, pk_sub, nI_clamp, inB_nI, gd_true, bnd_def, nI_leI, nI_ltI, nI_eq, nI_mI, mI_nI, nle_T, nle_F, nlt_T, nlt_F, neq_T, neq_F, ↓reduceIte, Nat.add_zero, Nat.zero_add, Nat.mul_zero, Nat.reduceAdd, Nat.reduceMul, Nat.reduceSub, ob1_e, ob2_e, ob3_e, ob4_e, ob6_e]
theorem binY {mc mv st : Nat → Int32} {f i tx to k c : Nat} {r : Int32} (ht : tx ≤ 4) (hto : to ≤ 520) (hi : i < 520 * tx + to) (hk : k + 2 ≤ 80) (hc : 2 ≤ c ∧ c ≤ 11 ∧ c ≠ 9) (e : mc i = nI c) (er : f_X12_worked (nI c) (st k).toInt64 (st (k + 1)).toInt64 = some r) : f_X12_workOut_12 mc mv ml (f + 1) st (nI tx) (nI to) (nI (k + 1 + 1)) (nI i) = f_X12_workOut_12 mc mv ml f (upd st k r) (nI tx) (nI to) (nI (k + 1)) (nI (i + 1)) := by
  rw [uy12]
  simp (disch := omega) only [b_X12_workOut_12, e, add_m1, er, b_X12_workOut_165, Nat.add_sub_cancel, neg_nI, lit_nI, nI_add, pk_mul, pk_sub, nI_clamp, inB_nI, gd_true, bnd_def, nI_leI, nI_ltI, nI_eq, nI_mI, mI_nI, nle_T, nle_F, nlt_T, nlt_F, neq_T, neq_F, ↓reduceIte, Nat.add_zero, Nat.zero_add, Nat.mul_zero, Nat.reduceAdd, Nat.reduceMul, Nat.reduceSub, ob1_e, ob2_e, ob3_e, ob4_e, ob6_e]
theorem notY {mc mv st : Nat → Int32} {f i tx to k : Nat} (ht : tx ≤ 4) (hto : to ≤ 520) (hi : i < 520 * tx + to) (hk : k + 1 ≤ 80) (e : mc i = nI 9) : f_X12_workOut_12 mc mv ml (f + 1) st (nI tx) (nI to) (nI (k + 1)) (nI i) = f_X12_workOut_12 mc mv ml f (upd st k (nI 1 - st k)) (nI tx) (nI to) (nI (k + 1)) (nI (i + 1)) := by
  rw [uy12]
  simp (disch := omega) only [b_X12_workOut_12, e, b_X12_workOut_165, Nat.add_sub_cancel, neg_nI, lit_nI, nI_add, pk_mul, pk_sub, nI_clamp, inB_nI, gd_true, bnd_def, nI_leI, nI_ltI, nI_eq, nI_mI, mI_nI, nle_T, nle_F, nlt_T, nlt_F, neq_T, neq_F, ↓reduceIte, Nat.add_zero, Nat.zero_add, Nat.mul_zero, Nat.reduceAdd, Nat.reduceMul, Nat.reduceSub, ob1_e, ob2_e, ob3_e, ob4_e, ob6_e]
theorem numY {mc mv st : Nat → Int32} {f i tx to k : Nat} (ht : tx ≤ 4) (hto : to ≤ 520) (hi : i < 520 * tx + to) (hk : k + 1 ≤ 80) (e : mc i = nI 0) : f_X12_workOut_12 mc mv ml (f + 1) st (nI tx) (nI to) (nI k) (nI i) = f_X12_workOut_12 mc mv ml f (upd st k (mv i)) (nI tx) (nI to) (nI (k + 1)) (nI (i + 1)) := by
  rw [uy12]
  simp (disch := omega) only [b_X12_workOut_12, b_X12_workOut_45, b_X12_workOut_83, e, b_X12_workOut_165, Nat.add_sub_cancel, neg_nI, lit_nI, nI_add, pk_mul, pk_sub, nI_clamp, inB_nI, gd_true, bnd_def, nI_leI, nI_ltI, nI_eq, nI_mI, mI_nI, nle_T, nle_F, nlt_T, nlt_F, neq_T, neq_F, ↓reduceIte, Nat.add_zero, Nat.zero_add, Nat.mul_zero, Nat.reduceAdd, Nat.reduceMul, Nat.reduceSub, ob1_e, ob2_e, ob3_e, ob4_e, ob6_e]
theorem ltrY {mc mv st : Nat → Int32} {f i tx to k l : Nat} (ht : tx ≤ 4) (hto : to ≤ 520) (hi : i < 520 * tx + to) (hk : k + 1 ≤ 80) (hl : l < 6) (e : mc i = nI 1) (e2 : mv i = nI l) : f_X12_workOut_12 mc mv ml (f + 1) st (nI tx) (nI to) (nI k) (nI i) = f_X12_workOut_12 mc mv ml f (upd st k (ml l)) (nI tx) (nI to) (nI (k + 1)) (nI (i + 1)) := by
  rw [uy12]
  simp (disch := omega) only [b_X12_workOut_12, b_X12_workOut_45, b_X12_workOut_83, e, e2, b_X12_workOut_165, Nat.add_sub_cancel, neg_nI, lit_nI, nI_add, pk_mul, pk_sub, nI_clamp, inB_nI, gd_true, bnd_def, nI_leI, nI_ltI, nI_eq, nI_mI, mI_nI, nle_T, nle_F, nlt_T, nlt_F, neq_T, neq_F, ↓reduceIte, Nat.add_zero, Nat.zero_add, Nat.mul_zero, Nat.reduceAdd, Nat.reduceMul, Nat.reduceSub, ob1_e, ob2_e, ob3_e, ob4_e, ob6_e]
theorem csb (k : Nat) (h : 2 ≤ k ∧ k ≤ 11 ∧ k ≠ 9) : ∃ q, 2 ≤ q ∧ q ≤ 10 ∧ cs (k, 0) = mI q := by
  have hk : k = 2 ∨ k = 3 ∨ k = 4 ∨ k = 5 ∨ k = 6 ∨ k = 7 ∨ k = 8 ∨ k = 10 ∨ k = 11 := by omega
  rcases hk with rfl | rfl | rfl | rfl | rfl | rfl | rfl | rfl | rfl
  · exact ⟨2, by omega, by omega, rfl⟩
  · exact ⟨3, by omega, by omega, rfl⟩
  · exact ⟨4, by omega, by omega, rfl⟩
  · exact ⟨5, by omega, by omega, rfl⟩
  · exact ⟨6, by omega, by omega, rfl⟩
  · exact ⟨7, by omega, by omega, rfl⟩
  · exact ⟨8, by omega, by omega, rfl⟩
  · exact ⟨9, by omega, by omega, rfl⟩
  · exact ⟨10, by omega, by omega, rfl⟩
theorem tp_s (k : Nat) : tpX (k + 1) = nI k := by unfold tpX; rw [if_neg (by omega)]; rfl
theorem run_c (hl : ∀ l, l < 6 → ml l = lt l) {L : List Tok} {h : Nat} (e : Ex L h) : 0 < h ∧ ∃ v, SX lt L h v ∧ SY ml L h v := by
  refine e (fun L h => 0 < h ∧ ∃ v, SX lt L h v ∧ SY ml L h v) ?_ ?_ ?_ ?_
  · intro v hv
    refine ⟨by omega, nI v, ?_, ?_⟩
    · intro ar f st i len k h1 h2 h3 hr
      replace h2 : i + 1 ≤ len := h2
      exact ⟨upd st k (nI v), numX h1 (by omega) (by omega) hv hr.1, upd_s, fun j hj => upd_n (by omega)⟩
    · intro mc mv f st tx to i k h1 h2 h3 h4 hr hr2
      replace h3 : i + 1 ≤ 520 * tx + to := h3
      exact ⟨upd st k (mv i), numY h1 h2 (by omega) (by omega) hr.1, by rw [upd_s]; exact hr2.1, fun j hj => upd_n (by omega)⟩
  · intro l hv
    refine ⟨by omega, lt l, ?_, ?_⟩
    · intro ar f st i len k h1 h2 h3 hr
      replace h2 : i + 1 ≤ len := h2
      exact ⟨upd st k (lt l), ltrX h1 (by omega) (by omega) hv hr.1, upd_s, fun j hj => upd_n (by omega)⟩
    · intro mc mv f st tx to i k h1 h2 h3 h4 hr hr2
      replace h3 : i + 1 ≤ 520 * tx + to := h3
      exact ⟨upd st k (ml l), ltrY h1 h2 (by omega) (by omega) hv hr.1 hr2.1, by rw [upd_s, hl l hv], fun j hj => upd_n (by omega)⟩
  · intro k0 A B x y hk0 hA hB
    obtain ⟨x0, va, XA, YA⟩ := hA
    obtain ⟨y0, vb, XB, YB⟩ := hB
    obtain ⟨r, er1, er2⟩ := comb_c k0 hk0 va.toInt64 vb.toInt64
    obtain ⟨q, q1, q2, eq⟩ := csb k0 hk0
    rw [eq] at er1
    have hlen := len3 (A := A) (B := B) (x := (k0, 0))
    refine ⟨by omega, r, ?_, ?_⟩
    · intro ar f st i len k h1 h2 h3 hr
      rw [hlen] at h2 ⊢
      obtain ⟨hr1, hr2⟩ := Rd_app A (B ++ [(k0, 0)]) i hr
      obtain ⟨hr2, hr3⟩ := Rd_app B [(k0, 0)] (i + A.length) hr2
      obtain ⟨st1, e1, e2, e3⟩ := XA ar (f + 1 + B.length) st i len k h1 (by omega) (by omega) hr1
      obtain ⟨st2, f1, f2, f3⟩ := XB ar (f + 1) st1 (i + A.length) len (k + 1) h1 (by omega) (by omega) hr2
      rw [tp_s] at f1
      have hb := binX (lt := lt) (ar := ar) (st := st2) (f := f) (i := i + A.length + B.length) (len := len) (k := k) (q := q) (r := r) h1 (by omega) (by omega) ⟨q1, q2⟩ (by rw [hr3.1, eq]) (by rw [f2, f3 k (by omega), e2]; exact er1)
      refine ⟨upd st2 k r, ?_, upd_s, fun j hj => ?_⟩
      · rw [show f + (A.length + B.length + 1) = f + 1 + B.length + A.length by omega, e1, f1, hb, show i + A.length + B.length + 1 = i + (A.length + B.length + 1) by omega]
      · rw [upd_n (by omega), f3 j (by omega), e3 j hj]
    · intro mc mv f st tx to i k h1 h2 h3 h4 hr hw
      rw [hlen] at h3 ⊢
      obtain ⟨hr1, hr2⟩ := Rd_app A (B ++ [(k0, 0)]) i hr
      obtain ⟨hr2, hr3⟩ := Rd_app B [(k0, 0)] (i + A.length) hr2
      obtain ⟨hw1, hw2⟩ := Rd_app A (B ++ [(k0, 0)]) i hw
      obtain ⟨hw2, hw3⟩ := Rd_app B [(k0, 0)] (i + A.length) hw2
      obtain ⟨st1, e1, e2, e3⟩ := YA mc mv (f + 1 + B.length) st tx to i k h1 h2 (by omega) (by omega) hr1 hw1
      obtain ⟨st2, f1, f2, f3⟩ := YB mc mv (f + 1) st1 tx to (i + A.length) (k + 1) h1 h2 (by omega) (by omega) hr2 hw2
      have hb := binY (ml := ml) (mc := mc) (mv := mv) (st := st2) (f := f) (i := i + A.length + B.length) (tx := tx) (to := to) (k := k) (c := k0) (r := r) h1 h2 (by omega) (by omega) hk0 hr3.1 (by rw [f2, f3 k (by omega), e2]; exact er2)
      refine ⟨upd st2 k r, ?_, upd_s, fun j hj => ?_⟩
      · rw [show f + (A.length + B.length + 1) = f + 1 + B.length + A.length by omega, e1, f1, hb, show i + A.length + B.length + 1 = i + (A.length + B.length + 1) by omega]
      · rw [upd_n (by omega), f3 j (by omega), e3 j hj]
  · intro A x hA
    obtain ⟨x0, va, XA, YA⟩ := hA
    have hlen := len2 (A := A) (x := (9, 0))
    refine ⟨x0, nI 1 - va, ?_, ?_⟩
    · intro ar f st i len k h1 h2 h3 hr
      rw [hlen] at h2 ⊢
      obtain ⟨hr1, hr2⟩ := Rd_app A [(9, 0)] i hr
      obtain ⟨st1, e1, e2, e3⟩ := XA ar (f + 1) st i len k h1 (by omega) (by omega) hr1
      have hb := notX (lt := lt) (ar := ar) (st := st1) (f := f) (i := i + A.length) (len := len) (k := k) h1 (by omega) (by omega) hr2.1
      refine ⟨upd st1 k (nI 1 - va), ?_, upd_s, fun j hj => ?_⟩
      · rw [show f + (A.length + 1) = f + 1 + A.length by omega, e1, hb, e2, Nat.add_assoc]
      · rw [upd_n (by omega), e3 j hj]
    · intro mc mv f st tx to i k h1 h2 h3 h4 hr hw
      rw [hlen] at h3 ⊢
      obtain ⟨hr1, hr2⟩ := Rd_app A [(9, 0)] i hr
      obtain ⟨hw1, hw2⟩ := Rd_app A [(9, 0)] i hw
      obtain ⟨st1, e1, e2, e3⟩ := YA mc mv (f + 1) st tx to i k h1 h2 (by omega) (by omega) hr1 hw1
      have hb := notY (ml := ml) (mc := mc) (mv := mv) (st := st1) (f := f) (i := i + A.length) (tx := tx) (to := to) (k := k) h1 h2 (by omega) (by omega) hr2.1
      refine ⟨upd st1 k (nI 1 - va), ?_, upd_s, fun j hj => ?_⟩
      · rw [show f + (A.length + 1) = f + 1 + A.length by omega, e1, hb, e2, Nat.add_assoc]
      · rw [upd_n (by omega), e3 j hj]
end RU
