/-! what a house can be sure of; rests -/
theorem mn_le {x v : Int32} (h : v.toInt ≤ x.toInt) : mn x v = v := by
  show (if v < x then v else x) = v
  by_cases e : v < x
  · rw [if_pos e]
  · rw [if_neg e]
    rw [lt32] at e
    exact Int32.toInt_inj.mp (by omega)
theorem mx_le {x v : Int32} (h : x.toInt ≤ v.toInt) : mx x v = v := by
  show (if x < v then v else x) = v
  by_cases e : x < v
  · rw [if_pos e]
  · rw [if_neg e]
    rw [lt32] at e
    exact Int32.toInt_inj.mp (by omega)
def ib (v : Int32) : Prop := -12 ≤ v.toInt ∧ v.toInt ≤ 9
theorem ib_mn {x v : Int32} (h1 : ib x) (h2 : ib v) : ib (mn x v) := by
  show ib (if v < x then v else x)
  split <;> assumption
theorem ib_mx {x v : Int32} (h1 : ib x) (h2 : ib v) : ib (mx x v) := by
  show ib (if x < v then v else x)
  split <;> assumption
theorem ib_9 {v : Int32} (h : ib v) : mn (nI 9) v = v ∧ mn (nI 99) v = v := by
  have a1 : (nI 9).toInt = 9 := by decide
  have a2 : (nI 99).toInt = 99 := by decide
  have := h.2
  exact ⟨mn_le (by omega), mn_le (by omega)⟩
theorem ib_20 {v : Int32} (h : ib v) : mx (mI 20) v = v ∧ mx (mI 1000000) v = v := by
  have a1 : (mI 20).toInt = -20 := by decide
  have a2 : (mI 1000000).toInt = -1000000 := by decide
  have := h.1
  exact ⟨mx_le (by omega), mx_le (by omega)⟩
theorem ga_b {R : R6} {ta c : Nat → Int32} {G : Nat} {th : Nat → Int32} (hB : RiseB R) (hI : IV G th c) {g o : Nat} (hg : g < G) : ib (ga R ta c (some g) (some o)) := by
  obtain ⟨f, hf, ef⟩ := hI.2.1 g hg
  have hb : ∀ w d, -9 ≤ (rv R ta c g o w d).toInt ∧ (rv R ta c g o w d).toInt ≤ 9 := fun w d => hB _ _ _ _ _ _
  have h1 := hb (c (pl g o)) (c 68)
  have h2 : (nI (f / 3)).toInt = ((f / 3 : Nat) : Int) := nI_toInt (by omega)
  show ib (rv R ta c g o (c (pl g o)) (c 68) - c (36 + g) / nI 3)
  unfold ib
  rw [ef, pk_div (by omega) (by omega) (by omega), Int32.toInt_sub, h2, Int.bmod_eq_of_le (by omega) (by omega)]
  omega
theorem nt_some {th : Nat → Int32} {h : Int32} {x : Nat} : ∀ G, x < cnt th h G → ∃ g, g < G ∧ th g = h ∧ cnt th h g = x
  | 0, q => by simp [cnt] at q
  | G + 1, q => by
    by_cases e : th G = h
    · by_cases e2 : x = cnt th h G
      · exact ⟨G, by omega, e, e2.symm⟩
      · rw [cnt_y e] at q
        obtain ⟨g, a, b⟩ := nt_some G (show x < cnt th h G by omega)
        exact ⟨g, by omega, b⟩
    · rw [cnt_n e] at q
      obtain ⟨g, a, b⟩ := nt_some G q
      exact ⟨g, by omega, b⟩
section SU
variable {R : R6} {lh : Int32} {ll l0 l1 l2 l3 : Nat → Int32} {mh : Int32} {mc mv mk mt ms mu : Nat → Int32}
variable {G M : Nat} {th ta mg c m : Nat → Int32}
theorem least_l (hX : RiseX R lh ll l0 l1 l2 l3) (hY : RiseY R mh mc mv mk mt ms mu) (hB : RiseB R) (hG : G ≤ 6) (hh : ∀ g, g < G → mg (4 * g) = th g) (ha : ∀ g, g < G → mg (4 * g + 3) = ta g) (h01 : ∀ g, g < G → th g = nI 0 ∨ th g = nI 1) (hN : RN G M c m) (hI : IV G th c) {g h : Nat} (hg : g < G) (hle : h ≤ 1) (eg : th g = nI h) (hex : ∃ b, b < G ∧ th b = nI (1 - h)) : ∀ (j t n n' : Nat) (lt st lt2 st2 : Nat → Int32) (vx vy : Int32), t + j = G → j < n → j < n' → ((vx = vy ∧ ib vx) ∨ (vx = nI 9 ∧ vy = nI 99 ∧ ∀ s, s < t → ¬ th s = nI (1 - h))) → ∃ r lt' st' lt2' st2', f_X11_leastGain_5 (nI G) th ta lh ll l0 l1 l2 l3 c n lt st (nI g) vx (nI t) = some (r, lt', st') ∧ f_X12_leastOf_6 (nI G) mh mc mv mk mt ms mu mg m n' lt2 st2 (nI h) (nI (cnt th (nI h) g)) vy (nI (cnt th (nI (1 - h)) t)) = some (r, lt2', st2') ∧ ib r := by
  have hm : f_X12_manyOf (nI G) mg (nI 1 - nI h) = some (nI (cnt th (nI (1 - h)) G)) := by
    rw [pk_sub hle]
    exact sizeY_c hG hh
  have hcG := cnt_le th (nI (1 - h)) G
  intro j
  induction j with
  | zero =>
    intro t n n' lt st lt2 st2 vx vy ht h1 h2 hA
    obtain ⟨n, rfl⟩ : ∃ q, n = q + 1 := ⟨n - 1, by omega⟩
    obtain ⟨n', rfl⟩ : ∃ q, n' = q + 1 := ⟨n' - 1, by omega⟩
    have et : t = G := by omega
    subst et
    rcases hA with ⟨rfl, hb⟩ | ⟨-, -, hno⟩
    · refine ⟨vx, lt, st, lt2, st2, ?_, ?_, hb⟩
      · simp (disch := omega) only [f_X11_leastGain_5, f_X11_leastGain, b_X11_leastGain_42, b_X11_leastGain_5, b_X11_leastGain_0, neg_nI, lit_nI, nI_add, pk_mul, pk_sub, nI_clamp, inB_nI, gd_true, bnd_def, nI_leI, nI_ltI, nI_eq, nI_mI, mI_nI, nle_T, nle_F, nlt_T, nlt_F, neq_T, neq_F, ↓reduceIte, Nat.add_zero, Nat.zero_add, Nat.mul_zero, Nat.reduceAdd, Nat.reduceMul, Nat.reduceSub, ob1_e, ob2_e, ob3_e, ob4_e, ob6_e]
      · unfold f_X12_leastOf_6 b_X12_leastOf_6
        have hm' : f_X12_manyOf (nI t) mg ((1 : Int32) - nI h) = some (nI (cnt th (nI (1 - h)) t)) := hm
        rw [hm']
        simp (disch := omega) only [neg_nI, lit_nI, nI_add, pk_mul, pk_sub, nI_clamp, inB_nI, gd_true, bnd_def, nI_leI, nI_ltI, nI_eq, nI_mI, mI_nI, nle_T, nle_F, nlt_T, nlt_F, neq_T, neq_F, ↓reduceIte, Nat.add_zero, Nat.zero_add, Nat.mul_zero, Nat.reduceAdd, Nat.reduceMul, Nat.reduceSub, ob1_e, ob2_e, ob3_e, ob4_e, ob6_e]
    · obtain ⟨b, hb, eb⟩ := hex
      exact absurd eb (hno b hb)
  | succ j ih =>
    intro t n n' lt st lt2 st2 vx vy ht h1 h2 hA
    obtain ⟨n, rfl⟩ : ∃ q, n = q + 1 := ⟨n - 1, by omega⟩
    by_cases e : th t = nI (1 - h)
    · obtain ⟨n', rfl⟩ : ∃ q, n' = q + 1 := ⟨n' - 1, by omega⟩
      have hne : ¬ th g = th t := by
        rw [eg, e]
        intro z
        have := nI_inj (by omega) (by omega) z
        omega
      have hlt := cnt_lt e (show t < G by omega)
      obtain ⟨lt1, st1, x1⟩ := gains_c hX hG (ta := ta) (c := c) (some g) (some t) (fun q z => by cases z; exact hg) (fun q z => by cases z; omega) lt st
      have gb := ga_b (ta := ta) (o := t) hB hI hg
      have hmn : mn vx (ga R ta c (some g) (some t)) = mn vy (ga R ta c (some g) (some t)) ∧ ib (mn vx (ga R ta c (some g) (some t))) := by
        rcases hA with ⟨rfl, hb⟩ | ⟨rfl, rfl, -⟩
        · exact ⟨rfl, ib_mn hb gb⟩
        · rw [(ib_9 gb).1, (ib_9 gb).2]
          exact ⟨rfl, gb⟩
      have y1 : ∃ lt3 st3, f_X12_leastOf_6 (nI G) mh mc mv mk mt ms mu mg m (n' + 1) lt2 st2 (nI h) (nI (cnt th (nI h) g)) vy (nI (cnt th (nI (1 - h)) t)) = f_X12_leastOf_6 (nI G) mh mc mv mk mt ms mu mg m n' lt3 st3 (nI h) (nI (cnt th (nI h) g)) (mn vy (ga R ta c (some g) (some t))) (nI (cnt th (nI (1 - h)) t + 1)) := by
        have hm' : f_X12_manyOf (nI G) mg ((1 : Int32) - nI h) = some (nI (cnt th (nI (1 - h)) G)) := hm
        have hc2 := cnt_le th (nI h) g
        rcases (show h = 0 ∨ h = 1 by omega) with rfl | rfl
        · obtain ⟨lt3, st3, q⟩ := gameOf_c hY hG hh ha hN (x := nI (cnt th (nI 0) g)) (y := nI (cnt th (nI 1) t)) (z := some g) (w := some t) (nt_at hG hg eg) (nt_at hG (by omega) e) (fun q z => by cases z; exact hg) (fun q z => by cases z; omega) 0 (by omega) lt2 st2
          rw [if_pos rfl] at q
          have hlt' : cnt th (nI 1) t < cnt th (nI 1) G := hlt
          have hcG' : cnt th (nI 1) G ≤ G := hcG
          refine ⟨lt3, st3, ?_⟩
          rw [f_X12_leastOf_6, b_X12_leastOf_6, hm']
          simp (disch := omega) only [b_X12_leastOf_42, q, neg_nI, lit_nI, nI_add, pk_mul, pk_sub, nI_clamp, inB_nI, gd_true, bnd_def, nI_leI, nI_ltI, nI_eq, nI_mI, mI_nI, nle_T, nle_F, nlt_T, nlt_F, neq_T, neq_F, ↓reduceIte, Nat.add_zero, Nat.zero_add, Nat.mul_zero, Nat.reduceAdd, Nat.reduceMul, Nat.reduceSub, ob1_e, ob2_e, ob3_e, ob4_e, ob6_e]
        · obtain ⟨lt3, st3, q⟩ := gameOf_c hY hG hh ha hN (x := nI (cnt th (nI 0) t)) (y := nI (cnt th (nI 1) g)) (z := some t) (w := some g) (nt_at hG (by omega) e) (nt_at hG hg eg) (fun q z => by cases z; omega) (fun q z => by cases z; exact hg) 1 (by omega) lt2 st2
          rw [if_neg (by omega)] at q
          have hlt' : cnt th (nI 0) t < cnt th (nI 0) G := hlt
          have hcG' : cnt th (nI 0) G ≤ G := hcG
          refine ⟨lt3, st3, ?_⟩
          rw [f_X12_leastOf_6, b_X12_leastOf_6, hm']
          simp (disch := omega) only [b_X12_leastOf_42, q, neg_nI, lit_nI, nI_add, pk_mul, pk_sub, nI_clamp, inB_nI, gd_true, bnd_def, nI_leI, nI_ltI, nI_eq, nI_mI, mI_nI, nle_T, nle_F, nlt_T, nlt_F, neq_T, neq_F, ↓reduceIte, Nat.add_zero, Nat.zero_add, Nat.mul_zero, Nat.reduceAdd, Nat.reduceMul, Nat.reduceSub, ob1_e, ob2_e, ob3_e, ob4_e, ob6_e]
      obtain ⟨lt3, st3, y1⟩ := y1
      obtain ⟨r, lt', st', lt2', st2', e1, e2, e3⟩ := ih (t + 1) n n' lt1 st1 lt3 st3 (mn vx (ga R ta c (some g) (some t))) (mn vy (ga R ta c (some g) (some t))) (by omega) (by omega) (by omega) (Or.inl hmn)
      rw [cnt_y e] at e2
      refine ⟨r, lt', st', lt2', st2', ?_, ?_, e3⟩
      · rw [← e1]
        simp only [gx] at x1
        simp (disch := omega) only [f_X11_leastGain_5, f_X11_leastGain, b_X11_leastGain_42, b_X11_leastGain_5, b_X11_leastGain_0, unlike_c, hne, x1, neg_nI, lit_nI, nI_add, pk_mul, pk_sub, nI_clamp, inB_nI, gd_true, bnd_def, nI_leI, nI_ltI, nI_eq, nI_mI, mI_nI, nle_T, nle_F, nlt_T, nlt_F, neq_T, neq_F, ↓reduceIte, Nat.add_zero, Nat.zero_add, Nat.mul_zero, Nat.reduceAdd, Nat.reduceMul, Nat.reduceSub, ob1_e, ob2_e, ob3_e, ob4_e, ob6_e]
      · rw [← e2, ← y1]
    · have heq : th g = th t := by
        rw [eg]
        rcases (show h = 0 ∨ h = 1 by omega) with rfl | rfl
        · rcases h01 t (by omega) with z | z
          · exact z.symm
          · exact absurd z e
        · rcases h01 t (by omega) with z | z
          · exact absurd z e
          · exact z.symm
      obtain ⟨r, lt', st', lt2', st2', e1, e2, e3⟩ := ih (t + 1) n n' lt st lt2 st2 vx vy (by omega) (by omega) (by omega) (by
        rcases hA with q | ⟨q1, q2, q3⟩
        · exact Or.inl q
        · refine Or.inr ⟨q1, q2, fun s hs => ?_⟩
          by_cases es : s = t
          · rw [es]; exact e
          · exact q3 s (by omega))
      rw [cnt_n e] at e2
      refine ⟨r, lt', st', lt2', st2', ?_, e2, e3⟩
      rw [← e1]
      simp (disch := omega) only [f_X11_leastGain_5, f_X11_leastGain, b_X11_leastGain_42, b_X11_leastGain_5, b_X11_leastGain_0, unlike_c, heq, neg_nI, lit_nI, nI_add, pk_mul, pk_sub, nI_clamp, inB_nI, gd_true, bnd_def, nI_leI, nI_ltI, nI_eq, nI_mI, mI_nI, nle_T, nle_F, nlt_T, nlt_F, neq_T, neq_F, ↓reduceIte, Nat.add_zero, Nat.zero_add, Nat.mul_zero, Nat.reduceAdd, Nat.reduceMul, Nat.reduceSub, ob1_e, ob2_e, ob3_e, ob4_e, ob6_e]
theorem sure_l (hX : RiseX R lh ll l0 l1 l2 l3) (hY : RiseY R mh mc mv mk mt ms mu) (hB : RiseB R) (hG : G ≤ 6) (hh : ∀ g, g < G → mg (4 * g) = th g) (ha : ∀ g, g < G → mg (4 * g + 3) = ta g) (h01 : ∀ g, g < G → th g = nI 0 ∨ th g = nI 1) (hN : RN G M c m) (hI : IV G th c) {h : Nat} (hle : h ≤ 1) (hex1 : ∃ b, b < G ∧ th b = nI h) (hex : ∃ b, b < G ∧ th b = nI (1 - h)) : ∀ (j t n n' : Nat) (lt st lt2 st2 : Nat → Int32) (vx vy : Int32), t + j = G → j < n → j < n' → ((vx = vy ∧ ib vx) ∨ (vx = mI 20 ∧ vy = mI 1000000 ∧ ∀ s, s < t → ¬ th s = nI h)) → ∃ r lt' st' lt2' st2', f_X11_sure_25 (nI G) th ta lh ll l0 l1 l2 l3 c n lt st (nI h) vx (nI t) = some (r, lt', st') ∧ f_X12_sure_26 (nI G) mh mc mv mk mt ms mu mg m n' lt2 st2 (nI h) vy (nI (cnt th (nI h) t)) = some (r, lt2', st2') := by
  have hm := sizeY_c (th := th) (mg := mg) (h := nI h) hG hh
  have hcG := cnt_le th (nI h) G
  intro j
  induction j with
  | zero =>
    intro t n n' lt st lt2 st2 vx vy ht h1 h2 hA
    obtain ⟨n, rfl⟩ : ∃ q, n = q + 1 := ⟨n - 1, by omega⟩
    obtain ⟨n', rfl⟩ : ∃ q, n' = q + 1 := ⟨n' - 1, by omega⟩
    have et : t = G := by omega
    subst et
    rcases hA with ⟨rfl, hb⟩ | ⟨-, -, hno⟩
    · refine ⟨vx, lt, st, lt2, st2, ?_, ?_⟩
      · simp (disch := omega) only [f_X11_sure_25, f_X11_sure, b_X11_sure_16, b_X11_sure_59, b_X11_sure_25, b_X11_sure_0, neg_nI, lit_nI, nI_add, pk_mul, pk_sub, nI_clamp, inB_nI, gd_true, bnd_def, nI_leI, nI_ltI, nI_eq, nI_mI, mI_nI, nle_T, nle_F, nlt_T, nlt_F, neq_T, neq_F, ↓reduceIte, Nat.add_zero, Nat.zero_add, Nat.mul_zero, Nat.reduceAdd, Nat.reduceMul, Nat.reduceSub, ob1_e, ob2_e, ob3_e, ob4_e, ob6_e]
      · simp (disch := omega) only [f_X12_sure_26, f_X12_sure, b_X12_sure_16, b_X12_sure_26, b_X12_sure_0, hm, neg_nI, lit_nI, nI_add, pk_mul, pk_sub, nI_clamp, inB_nI, gd_true, bnd_def, nI_leI, nI_ltI, nI_eq, nI_mI, mI_nI, nle_T, nle_F, nlt_T, nlt_F, neq_T, neq_F, ↓reduceIte, Nat.add_zero, Nat.zero_add, Nat.mul_zero, Nat.reduceAdd, Nat.reduceMul, Nat.reduceSub, ob1_e, ob2_e, ob3_e, ob4_e, ob6_e]
    · obtain ⟨b, hb, eb⟩ := hex1
      exact absurd eb (hno b hb)
  | succ j ih =>
    intro t n n' lt st lt2 st2 vx vy ht h1 h2 hA
    obtain ⟨n, rfl⟩ : ∃ q, n = q + 1 := ⟨n - 1, by omega⟩
    by_cases e : th t = nI h
    · obtain ⟨n', rfl⟩ : ∃ q, n' = q + 1 := ⟨n' - 1, by omega⟩
      have hlt := cnt_lt e (show t < G by omega)
      obtain ⟨v, lt1, st1, lt3, st3, x1, y1, hv⟩ := least_l hX hY hB hG hh ha h01 hN hI (show t < G by omega) hle e hex G 0 fu fu lt st lt2 st2 (nI 9) (nI 99) (by omega) (by have := fu_le; omega) (by have := fu_le; omega) (Or.inr ⟨rfl, rfl, fun s hs => by omega⟩)
      have x1' : f_X11_leastGain (nI G) th ta lh ll l0 l1 l2 l3 c lt st (nI t) = some (v, lt1, st1) := x1
      have y1' : f_X12_leastOf (nI G) mh mc mv mk mt ms mu mg m lt2 st2 (nI h) (nI (cnt th (nI h) t)) = some (v, lt3, st3) := y1
      have hmx : mx vx v = mx vy v ∧ ib (mx vx v) := by
        rcases hA with ⟨rfl, hb⟩ | ⟨rfl, rfl, -⟩
        · exact ⟨rfl, ib_mx hb hv⟩
        · rw [(ib_20 hv).1, (ib_20 hv).2]
          exact ⟨rfl, hv⟩
      obtain ⟨r, lt', st', lt2', st2', e1, e2⟩ := ih (t + 1) n n' lt1 st1 lt3 st3 (mx vx v) (mx vy v) (by omega) (by omega) (by omega) (Or.inl hmx)
      rw [cnt_y e] at e2
      refine ⟨r, lt', st', lt2', st2', ?_, ?_⟩
      · rw [← e1]
        simp (disch := omega) only [f_X11_sure_25, f_X11_sure, b_X11_sure_16, b_X11_sure_59, b_X11_sure_25, b_X11_sure_0, e, x1', neg_nI, lit_nI, nI_add, pk_mul, pk_sub, nI_clamp, inB_nI, gd_true, bnd_def, nI_leI, nI_ltI, nI_eq, nI_mI, mI_nI, nle_T, nle_F, nlt_T, nlt_F, neq_T, neq_F, ↓reduceIte, Nat.add_zero, Nat.zero_add, Nat.mul_zero, Nat.reduceAdd, Nat.reduceMul, Nat.reduceSub, ob1_e, ob2_e, ob3_e, ob4_e, ob6_e]
      · rw [← e2]
        simp (disch := omega) only [f_X12_sure_26, f_X12_sure, b_X12_sure_16, b_X12_sure_26, b_X12_sure_0, hm, y1', neg_nI, lit_nI, nI_add, pk_mul, pk_sub, nI_clamp, inB_nI, gd_true, bnd_def, nI_leI, nI_ltI, nI_eq, nI_mI, mI_nI, nle_T, nle_F, nlt_T, nlt_F, neq_T, neq_F, ↓reduceIte, Nat.add_zero, Nat.zero_add, Nat.mul_zero, Nat.reduceAdd, Nat.reduceMul, Nat.reduceSub, ob1_e, ob2_e, ob3_e, ob4_e, ob6_e]
    · obtain ⟨r, lt', st', lt2', st2', e1, e2⟩ := ih (t + 1) n n' lt st lt2 st2 vx vy (by omega) (by omega) (by omega) (by
        rcases hA with q | ⟨q1, q2, q3⟩
        · exact Or.inl q
        · refine Or.inr ⟨q1, q2, fun s hs => ?_⟩
          by_cases es : s = t
          · rw [es]; exact e
          · exact q3 s (by omega))
      rw [cnt_n e] at e2
      refine ⟨r, lt', st', lt2', st2', ?_, e2⟩
      rw [← e1]
      simp (disch := omega) only [f_X11_sure_25, f_X11_sure, b_X11_sure_16, b_X11_sure_59, b_X11_sure_25, b_X11_sure_0, e, neg_nI, lit_nI, nI_add, pk_mul, pk_sub, nI_clamp, inB_nI, gd_true, bnd_def, nI_leI, nI_ltI, nI_eq, nI_mI, mI_nI, nle_T, nle_F, nlt_T, nlt_F, neq_T, neq_F, ↓reduceIte, Nat.add_zero, Nat.zero_add, Nat.mul_zero, Nat.reduceAdd, Nat.reduceMul, Nat.reduceSub, ob1_e, ob2_e, ob3_e, ob4_e, ob6_e]
theorem s_sure (hX : RiseX R lh ll l0 l1 l2 l3) (hY : RiseY R mh mc mv mk mt ms mu) (hB : RiseB R) (hG : G ≤ 6) (hh : ∀ g, g < G → mg (4 * g) = th g) (ha : ∀ g, g < G → mg (4 * g + 3) = ta g) (h01 : ∀ g, g < G → th g = nI 0 ∨ th g = nI 1) (hex : 0 < G → (∃ b, b < G ∧ th b = nI 0) ∧ ∃ b, b < G ∧ th b = nI 1) (hN : RN G M c m) (hI : IV G th c) (lt st lt2 st2 : Nat → Int32) (v : Int32) : ∃ r lt' st' lt2' st2', f_X11_sure (nI G) th ta lh ll l0 l1 l2 l3 c lt st v = some (r, lt', st') ∧ f_X12_sure (nI G) mh mc mv mk mt ms mu mg m lt2 st2 v = some (r, lt2', st2') := by
  by_cases g0 : G = 0
  · refine ⟨mI 1000000, lt, st, lt2, st2, ?_, ?_⟩
    · simp (disch := omega) only [f_X11_sure, b_X11_sure_16, b_X11_sure_59, b_X11_sure_25, b_X11_sure_0, noPeace_y g0, neg_nI, lit_nI, nI_add, pk_mul, pk_sub, nI_clamp, inB_nI, gd_true, bnd_def, nI_leI, nI_ltI, nI_eq, nI_mI, mI_nI, nle_T, nle_F, nlt_T, nlt_F, neq_T, neq_F, ↓reduceIte, Nat.add_zero, Nat.zero_add, Nat.mul_zero, Nat.reduceAdd, Nat.reduceMul, Nat.reduceSub, ob1_e, ob2_e, ob3_e, ob4_e, ob6_e]
    · simp (disch := omega) only [f_X12_sure, b_X12_sure_16, b_X12_sure_26, b_X12_sure_0, neg_nI, lit_nI, nI_add, pk_mul, pk_sub, nI_clamp, inB_nI, gd_true, bnd_def, nI_leI, nI_ltI, nI_eq, nI_mI, mI_nI, nle_T, nle_F, nlt_T, nlt_F, neq_T, neq_F, ↓reduceIte, Nat.add_zero, Nat.zero_add, Nat.mul_zero, Nat.reduceAdd, Nat.reduceMul, Nat.reduceSub, ob1_e, ob2_e, ob3_e, ob4_e, ob6_e]
  · rcases rng v 1 (by omega) with ⟨h, hle, rfl⟩ | k0 | ⟨k0, k1, k2⟩
    · obtain ⟨x0, x1⟩ := hex (by omega)
      have ex1 : ∃ b, b < G ∧ th b = nI h := by
        rcases (show h = 0 ∨ h = 1 by omega) with rfl | rfl
        · exact x0
        · exact x1
      have ex2 : ∃ b, b < G ∧ th b = nI (1 - h) := by
        rcases (show h = 0 ∨ h = 1 by omega) with rfl | rfl
        · exact x1
        · exact x0
      obtain ⟨r, lt', st', lt2', st2', e1, e2⟩ := sure_l hX hY hB hG hh ha h01 hN hI hle ex1 ex2 G 0 fu fu lt st lt2 st2 (mI 20) (mI 1000000) (by omega) (by have := fu_le; omega) (by have := fu_le; omega) (Or.inr ⟨rfl, rfl, fun s hs => by omega⟩)
      have e2' : f_X12_sure_26 (nI G) mh mc mv mk mt ms mu mg m fu lt2 st2 (nI h) (mI 1000000) (nI 0) = some (r, lt2', st2') := e2
      refine ⟨r, lt', st', lt2', st2', ?_, ?_⟩
      · rw [← e1]
        simp (disch := omega) only [f_X11_sure, b_X11_sure_16, b_X11_sure_59, b_X11_sure_25, b_X11_sure_0, noPeace_n, neg_nI, lit_nI, nI_add, pk_mul, pk_sub, nI_clamp, inB_nI, gd_true, bnd_def, nI_leI, nI_ltI, nI_eq, nI_mI, mI_nI, nle_T, nle_F, nlt_T, nlt_F, neq_T, neq_F, ↓reduceIte, Nat.add_zero, Nat.zero_add, Nat.mul_zero, Nat.reduceAdd, Nat.reduceMul, Nat.reduceSub, ob1_e, ob2_e, ob3_e, ob4_e, ob6_e]
      · rw [← e2']
        simp (disch := omega) only [f_X12_sure, b_X12_sure_16, b_X12_sure_26, b_X12_sure_0, in_c, neg_nI, lit_nI, nI_add, pk_mul, pk_sub, nI_clamp, inB_nI, gd_true, bnd_def, nI_leI, nI_ltI, nI_eq, nI_mI, mI_nI, nle_T, nle_F, nlt_T, nlt_F, neq_T, neq_F, ↓reduceIte, Nat.add_zero, Nat.zero_add, Nat.mul_zero, Nat.reduceAdd, Nat.reduceMul, Nat.reduceSub, ob1_e, ob2_e, ob3_e, ob4_e, ob6_e]
    · refine ⟨mI 1000000, lt, st, lt2, st2, ?_, ?_⟩
      · simp (disch := omega) only [f_X11_sure, b_X11_sure_16, b_X11_sure_59, b_X11_sure_25, b_X11_sure_0, noPeace_n, k0, neg_nI, lit_nI, nI_add, pk_mul, pk_sub, nI_clamp, inB_nI, gd_true, bnd_def, nI_leI, nI_ltI, nI_eq, nI_mI, mI_nI, nle_T, nle_F, nlt_T, nlt_F, neq_T, neq_F, ↓reduceIte, Nat.add_zero, Nat.zero_add, Nat.mul_zero, Nat.reduceAdd, Nat.reduceMul, Nat.reduceSub, ob1_e, ob2_e, ob3_e, ob4_e, ob6_e]
      · simp (disch := omega) only [f_X12_sure, b_X12_sure_16, b_X12_sure_26, b_X12_sure_0, in_lo (hi := nI 1) k0, neg_nI, lit_nI, nI_add, pk_mul, pk_sub, nI_clamp, inB_nI, gd_true, bnd_def, nI_leI, nI_ltI, nI_eq, nI_mI, mI_nI, nle_T, nle_F, nlt_T, nlt_F, neq_T, neq_F, ↓reduceIte, Nat.add_zero, Nat.zero_add, Nat.mul_zero, Nat.reduceAdd, Nat.reduceMul, Nat.reduceSub, ob1_e, ob2_e, ob3_e, ob4_e, ob6_e]
    · refine ⟨mI 1000000, lt, st, lt2, st2, ?_, ?_⟩
      · simp (disch := omega) only [f_X11_sure, b_X11_sure_16, b_X11_sure_59, b_X11_sure_25, b_X11_sure_0, noPeace_n, k0, k2, neg_nI, lit_nI, nI_add, pk_mul, pk_sub, nI_clamp, inB_nI, gd_true, bnd_def, nI_leI, nI_ltI, nI_eq, nI_mI, mI_nI, nle_T, nle_F, nlt_T, nlt_F, neq_T, neq_F, ↓reduceIte, Nat.add_zero, Nat.zero_add, Nat.mul_zero, Nat.reduceAdd, Nat.reduceMul, Nat.reduceSub, ob1_e, ob2_e, ob3_e, ob4_e, ob6_e]
      · simp (disch := omega) only [f_X12_sure, b_X12_sure_16, b_X12_sure_26, b_X12_sure_0, in_hi (lo := nI 0) k1, neg_nI, lit_nI, nI_add, pk_mul, pk_sub, nI_clamp, inB_nI, gd_true, bnd_def, nI_leI, nI_ltI, nI_eq, nI_mI, mI_nI, nle_T, nle_F, nlt_T, nlt_F, neq_T, neq_F, ↓reduceIte, Nat.add_zero, Nat.zero_add, Nat.mul_zero, Nat.reduceAdd, Nat.reduceMul, Nat.reduceSub, ob1_e, ob2_e, ob3_e, ob4_e, ob6_e]
end SU
