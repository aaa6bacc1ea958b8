theorem pl_inj (a : Nat) (ha : a < 6) (b : Nat) (hb : b < 6) (hab : a < b) (x : Nat) (hx : x < 6) (y : Nat) (hy : y < 6) (hxy : x < y) (e : pl a b = pl x y) : a = x ∧ b = y := by
  unfold pl at e
  rw [if_neg (by omega), if_neg (by omega)] at e
  omega
theorem IV.cong {G : Nat} {th c c' : Nat → Int32} (hG : G ≤ 6) (h : IV G th c) (hc : ∀ i, i < 48 ∨ i = 68 → c' i = c i) : IV G th c' := by
  obtain ⟨h1, h2, h3⟩ := h
  refine ⟨fun i hi => ?_, fun g hg => ?_, ?_⟩
  · rw [hc i (by omega)]
    exact h1 i hi
  · rw [hc (36 + g) (by omega)]
    exact h2 g hg
  · rw [hc 68 (by omega)]
    exact h3
theorem IV.warm {G : Nat} {th c : Nat → Int32} (hG : G ≤ 6) (h : IV G th c) {g o : Nat} (hg : g < G) (ho : o < G) (hne : ¬ th g = th o) (x : Int32) : IV G th (upd c (pl g o) (hd x)) := by
  obtain ⟨h1, h2, h3⟩ := h
  have hp := pl_lt (a := g) (b := o) ⟨by omega, by omega⟩
  refine ⟨fun i hi => ?_, fun q hq => ?_, ?_⟩
  · by_cases e : i = pl g o
    · rw [upd_y e]
      obtain ⟨w, hw, e2⟩ := hd_r x
      refine ⟨w, hw, e2, Or.inr ?_⟩
      rcases Nat.lt_trichotomy g o with l | l | l
      · exact ⟨g, o, l, ho, hne, e⟩
      · exact absurd (by rw [l]) hne
      · exact ⟨o, g, l, hg, fun q => hne q.symm, by rw [pl_comm]; exact e⟩
    · rw [upd_n e]
      exact h1 i hi
  · rw [upd_n (by omega)]
    exact h2 q hq
  · rw [upd_n (by omega)]
    exact h3
theorem day0 {d : Nat} (h : d ≤ 999) : mn 999 (nI d + nI 0) = nI d := by
  show (if nI d + nI 0 < nI 999 then nI d + nI 0 else nI 999) = nI d
  rw [nI_add, Nat.add_zero]
  by_cases e : d = 999
  · rw [e]
    rfl
  · rw [if_pos (nI_lt (by omega) (by omega))]
def mt4 (c : Nat → Int32) (g o : Nat) (w k : Int32) : Nat → Int32 := upd (upd (upd (upd (upd c (pl g o) w) (48 + g) k) (48 + o) k) (54 + g) (nI o)) (54 + o) (nI g)
section MT
variable {R : R6} {lh : Int32} {ll l0 l1 l2 l3 : Nat → Int32} {mh : Int32} {mc mv mk mt ms mu : Nat → Int32}
theorem meet_l (hX : RiseX R lh ll l0 l1 l2 l3) (hY : RiseY R mh mc mv mk mt ms mu) {G M : Nat} {th ta tn mg mm : Nat → Int32} (hG : G ≤ 6) (hM : M ≤ 5) (ha : ∀ g, g < G → mg (4 * g + 3) = ta g) (hn : ∀ k, k < M → mm (2 * k + 1) = tn k) {c m : Nat → Int32} (hN : RN G M c m) (hI : IV G th c) {g o : Nat} (hg : g < G) (ho : o < G) (hne : ¬ th g = th o) (lt st lt2 st2 : Nat → Int32) : ∃ lt' st' c' lt2' st2' m', f_X9_meet (nI M) ta tn lh ll l0 l1 l2 l3 lt st c (nI g) (nI o) = some (lt', st', c') ∧ f_X12_meetNow (nI M) mh mc mv mk mt ms mu mg mm lt2 st2 m (nI g) (nI o) = some (lt2', st2', m') ∧ RN G M c' m' ∧ IV G th c' ∧ (∀ i, (36 ≤ i ∧ i < 48) ∨ 66 ≤ i → c' i = c i) ∧ (∀ i, 66 ≤ i → m' i = m i) := by
  have hp := pl_lt (a := g) (b := o) ⟨by omega, by omega⟩
  obtain ⟨d, hd9, ed⟩ := hI.2.2
  obtain ⟨lt', st', e1⟩ := warmer_c hX (ta := ta) (c := c) (lt := lt) (st := st) (g := g) (o := o) (w := c (pl g o)) (k := nI 0) ⟨by omega, by omega⟩
  obtain ⟨lt2', st2', e2⟩ := riseOfY_c hY (mg := mg) (m := m) (lt := lt2) (st := st2) (g := g) (o := o) ⟨by omega, by omega⟩
  rw [ed, day0 hd9, ← ed] at e1
  rw [rv_cong hN ha ⟨hg, ho, hG⟩, hN (pl g o) (by omega), hN 68 (by omega)] at e2
  have em : m (pl g o) = c (pl g o) := hN _ (by omega)
  have e48 : m (48 + g) = c (48 + g) := hN _ (by omega)
  have e49 : m (48 + o) = c (48 + o) := hN _ (by omega)
  obtain ⟨c', m', s1, s2, s3, s4, s5⟩ := sign_l (G := G) (M := M) (g := g) (o := o) (tn := tn) (mm := mm) hM (by omega) (by omega) hn M 0 fu fu (mt4 c g o (hd (c (pl g o) + rv R ta c g o (c (pl g o)) (c 68))) (c (48 + g) ||| c (48 + o))) (mt4 m g o (hd (c (pl g o) + rv R ta c g o (c (pl g o)) (c 68))) (c (48 + g) ||| c (48 + o))) (by omega) (by have := fu_le; omega) (by have := fu_le; omega) (((((hN.put _ _).put _ _).put _ _).put _ _).put _ _)
  refine ⟨lt', st', c', lt2', st2', m', ?_, ?_, s3, ?_, ?_, ?_⟩
  · have q : f_X9_signLowest (nI M) tn (mt4 c g o (hd (c (pl g o) + rv R ta c g o (c (pl g o)) (c 68))) (c (48 + g) ||| c (48 + o))) (nI g) (nI o) = some c' := s1
    unfold mt4 at q
    simp (disch := omega) only [f_X9_meet, b_X9_meet_0, placeOf_c, warmthOf_c, e1, knows_c, inB_pl, pl_clamp, upd_n, q, neg_nI, lit_nI, nI_add, pk_mul, pk_sub, nI_clamp, inB_nI, gd_true, bnd_def, nI_leI, nI_ltI, nI_eq, nI_mI, mI_nI, nle_T, nle_F, nlt_T, nlt_F, neq_T, neq_F, ↓reduceIte, Nat.add_zero, Nat.zero_add, Nat.mul_zero, Nat.reduceAdd, Nat.reduceMul, Nat.reduceSub, ob1_e, ob2_e, ob3_e, ob4_e, ob6_e]
  · have q : f_X12_signNow (nI M) mm (mt4 m g o (hd (c (pl g o) + rv R ta c g o (c (pl g o)) (c 68))) (c (48 + g) ||| c (48 + o))) (nI g) (nI o) = some m' := s2
    unfold mt4 at q
    simp (disch := omega) only [f_X12_meetNow, b_X12_meetNow_0, pairAt_c, e2, em, e48, e49, held_c, inB_pl, pl_clamp, upd_n, q, neg_nI, lit_nI, nI_add, pk_mul, pk_sub, nI_clamp, inB_nI, gd_true, bnd_def, nI_leI, nI_ltI, nI_eq, nI_mI, mI_nI, nle_T, nle_F, nlt_T, nlt_F, neq_T, neq_F, ↓reduceIte, Nat.add_zero, Nat.zero_add, Nat.mul_zero, Nat.reduceAdd, Nat.reduceMul, Nat.reduceSub, ob1_e, ob2_e, ob3_e, ob4_e, ob6_e]
  · refine (hI.warm hG hg ho hne (c (pl g o) + rv R ta c g o (c (pl g o)) (c 68))).cong hG fun i hi => ?_
    rw [s4 i (by omega)]
    unfold mt4
    rw [upd_n (by omega), upd_n (by omega), upd_n (by omega), upd_n (by omega)]
  · intro i hi
    rw [s4 i (by omega)]
    unfold mt4
    rw [upd_n (by omega), upd_n (by omega), upd_n (by omega), upd_n (by omega), upd_n (by omega)]
  · intro i hi
    rw [s5 i (by omega)]
    unfold mt4
    rw [upd_n (by omega), upd_n (by omega), upd_n (by omega), upd_n (by omega), upd_n (by omega)]
end MT
