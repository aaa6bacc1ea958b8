/-! texts by both -/
theorem text0_l (tape_bytes : Nat → Int32) (llT : Nat → Int32) (plT : Nat → Int32) (pmT : Nat → Int32) (puT : Nat → Int32) (x_imaged : Int32) (tape_length : Int32) (tape_at : Int32) (pr_ruled : Int32) (pr_values : Nat → Int32) (lr_size : Int32) (lr_code : Nat → Int32) (told_gloves : Int32) (told_matters : Int32) (told_pride : Int32) (told_coins : Int32) (told_house : Nat → Int32) (told_free : Nat → Int32) (told_stuffed : Nat → Int32) (told_after : Nat → Int32) (told_weight : Nat → Int32) (told_need : Nat → Int32) (read_gloves : Int32) (read_matters : Int32) (read_pride : Int32) (read_coins : Int32) (read_house : Nat → Int32) (read_free : Nat → Int32) (read_stuffed : Nat → Int32) (read_after : Nat → Int32) (read_weight : Nat → Int32) (read_need : Nat → Int32) (laws_size : Int32) (laws_lengths : Nat → Int32) (laws_c0 : Nat → Int32) (laws_c1 : Nat → Int32) (laws_c2 : Nat → Int32) (laws_c3 : Nat → Int32) (now_cells : Nat → Int32) (acts_size : Int32) (sg_size : Int32) : f_X11_text tape_bytes llT plT pmT puT x_imaged tape_length tape_at pr_ruled pr_values lr_size lr_code told_gloves told_matters told_pride told_coins told_house told_free told_stuffed told_after told_weight told_need read_gloves read_matters read_pride read_coins read_house read_free read_stuffed read_after read_weight read_need laws_size laws_lengths laws_c0 laws_c1 laws_c2 laws_c3 now_cells acts_size sg_size (nI 0) = ob29 (hd_takePeace tape_bytes plT pmT puT x_imaged tape_length tape_at pr_ruled pr_values told_gloves told_matters told_pride told_coins told_house told_free told_stuffed told_after told_weight told_need read_gloves read_matters read_pride read_coins read_house read_free read_stuffed read_after read_weight read_need now_cells acts_size sg_size) fun r_13 x_imaged_14 tape_length_15 tape_at_16 pr_ruled_17 pr_values_18 told_gloves_19 told_matters_20 told_pride_21 told_coins_22 told_house_23 told_free_24 told_stuffed_25 told_after_26 told_weight_27 told_need_28 read_gloves_29 read_matters_30 read_pride_31 read_coins_32 read_house_33 read_free_34 read_stuffed_35 read_after_36 read_weight_37 read_need_38 now_cells_39 acts_size_40 sg_size_41 => some (r_13, x_imaged_14, tape_length_15, tape_at_16, pr_ruled_17, pr_values_18, lr_size, lr_code, told_gloves_19, told_matters_20, told_pride_21, told_coins_22, told_house_23, told_free_24, told_stuffed_25, told_after_26, told_weight_27, told_need_28, read_gloves_29, read_matters_30, read_pride_31, read_coins_32, read_house_33, read_free_34, read_stuffed_35, read_after_36, read_weight_37, read_need_38, laws_size, laws_lengths, laws_c0, laws_c1, laws_c2, laws_c3, now_cells_39, acts_size_40, sg_size_41) := by
  unfold f_X11_text b_X11_text_0 hd_takePeace
  rw [if_pos (show nI 0 = (0 : Int32) from rfl)]
  rcases f_X6_readsAll tape_length tape_bytes plT pmT puT tape_at pr_ruled pr_values read_gloves read_matters read_pride read_coins read_house read_free read_stuffed read_after read_weight read_need with _ | ⟨r, a1, a2, a3, a4, a5, a6, a7, a8, a9, a10, a11, a12, a13⟩
  · rfl
  · rw [ob14_e, ob14_e]
    by_cases q : r = (0 : Int32)
    · rw [if_pos q, if_pos q, ob29_e]
      unfold b_X11_text_19
      rw [if_neg (show ¬ nI 0 = (1 : Int32) by decide)]
    · rw [if_neg q, if_neg q]
      unfold f_X11_takePeace b_X11_takePeace_0
      obtain ⟨c', b1, -⟩ := bg_c (pd := a6) (cn := a7) (fe := va_cpy a9 told_free 0 0 6) (st := va_cpy a10 told_stuffed 0 0 6) now_cells
      rw [copyP, ob10_e, ob10_e, b1, ob1_e, ob1_e]
      rfl
theorem text1_l (tape_bytes : Nat → Int32) (llT : Nat → Int32) (plT : Nat → Int32) (pmT : Nat → Int32) (puT : Nat → Int32) (x_imaged : Int32) (tape_length : Int32) (tape_at : Int32) (pr_ruled : Int32) (pr_values : Nat → Int32) (lr_size : Int32) (lr_code : Nat → Int32) (told_gloves : Int32) (told_matters : Int32) (told_pride : Int32) (told_coins : Int32) (told_house : Nat → Int32) (told_free : Nat → Int32) (told_stuffed : Nat → Int32) (told_after : Nat → Int32) (told_weight : Nat → Int32) (told_need : Nat → Int32) (read_gloves : Int32) (read_matters : Int32) (read_pride : Int32) (read_coins : Int32) (read_house : Nat → Int32) (read_free : Nat → Int32) (read_stuffed : Nat → Int32) (read_after : Nat → Int32) (read_weight : Nat → Int32) (read_need : Nat → Int32) (laws_size : Int32) (laws_lengths : Nat → Int32) (laws_c0 : Nat → Int32) (laws_c1 : Nat → Int32) (laws_c2 : Nat → Int32) (laws_c3 : Nat → Int32) (now_cells : Nat → Int32) (acts_size : Int32) (sg_size : Int32) : f_X11_text tape_bytes llT plT pmT puT x_imaged tape_length tape_at pr_ruled pr_values lr_size lr_code told_gloves told_matters told_pride told_coins told_house told_free told_stuffed told_after told_weight told_need read_gloves read_matters read_pride read_coins read_house read_free read_stuffed read_after read_weight read_need laws_size laws_lengths laws_c0 laws_c1 laws_c2 laws_c3 now_cells acts_size sg_size (nI 1) = ob11 (hd_takeLaw tape_bytes llT tape_length tape_at lr_size lr_code laws_size laws_lengths laws_c0 laws_c1 laws_c2 laws_c3) fun r_1 tape_length_2 tape_at_3 lr_size_4 lr_code_5 laws_size_6 laws_lengths_7 laws_c0_8 laws_c1_9 laws_c2_10 laws_c3_11 => some (r_1, x_imaged, tape_length_2, tape_at_3, pr_ruled, pr_values, lr_size_4, lr_code_5, told_gloves, told_matters, told_pride, told_coins, told_house, told_free, told_stuffed, told_after, told_weight, told_need, read_gloves, read_matters, read_pride, read_coins, read_house, read_free, read_stuffed, read_after, read_weight, read_need, laws_size_6, laws_lengths_7, laws_c0_8, laws_c1_9, laws_c2_10, laws_c3_11, now_cells, acts_size, sg_size) := by
  unfold f_X11_text b_X11_text_0 hd_takeLaw
  rw [if_neg (show ¬ nI 1 = (0 : Int32) by decide)]
  unfold b_X11_text_19
  rw [if_pos (show nI 1 = (1 : Int32) from rfl)]
  rcases f_X2_isFull laws_size with _ | r
  · rfl
  rw [ob1_e, ob1_e]
  by_cases q : r = (0 : Int32)
  · rw [if_pos q, if_pos q]
    rcases f_X1_readsAll tape_length tape_bytes llT tape_at lr_size lr_code with _ | ⟨r2, a1, a2, a3⟩
    · rfl
    · rw [ob4_e, ob4_e]
      by_cases q2 : r2 = (0 : Int32)
      · rw [if_pos q2, if_pos q2, ob11_e]
      · rw [if_neg q2, if_neg q2]
        unfold f_X11_takeLaw b_X11_takeLaw_0
        rcases f_X2_add a3 241 laws_size laws_lengths laws_c0 laws_c1 laws_c2 laws_c3 a2 with _ | ⟨b1, b2, b3, b4, b5, b6⟩
        · rfl
        · rfl
  · rw [if_neg q, if_neg q, ob11_e]
section TY
variable {n : Nat} {t u llT plT pmT puT : Nat → Int32}
theorem s_text (hn : n ≤ 240) (h : RT n t u) (tb : TB plT pmT puT) (tl : LT6 llT) {N : Nat} {ll l0 l1 l2 l3 mc mv mk mt ms mu : Nat → Int32} (hL : RLw N ll l0 l1 l2 l3 mc mv mk mt ms mu) (bk : Nat → Int32) (xi a ru ls v1 v2 v3 v4 w1 w2 w3 w4 as sgs y1 y2 dp tx y3 y4 g m ma no mi v : Int32) (vl lc th tf ts ta tw tn ho fe st af we ne c mo rr rg rm mr mg mm mw : Nat → Int32) (hru : ru = nI 0 ∨ ru = nI 1) : (∃ (ru' : Nat) (vl' : Nat → Int32) (G M : Nat) (pd cn z1 z2 : Int32) (th' tf' ts' ta' tw' tn' ho' fe' st' af' we' ne' c' rr' rg' rm' mr' mg' mm' mw' : Nat → Int32), f_X11_text t llT plT pmT puT xi (nI n) a ru vl ls lc v1 v2 v3 v4 th tf ts ta tw tn w1 w2 w3 w4 ho fe st af we ne (nI N) ll l0 l1 l2 l3 c as sgs v = some (nI G, nI 0, nI 0, nI n, nI ru', vl', ls, lc, nI G, nI M, pd, cn, th', tf', ts', ta', tw', tn', nI G, nI M, pd, cn, ho', fe', st', af', we', ne', nI N, ll, l0, l1, l2, l3, c', nI 0, nI 0) ∧ f_X12_text u (nI n) y1 y2 dp (nI N) tx y3 y4 g m ma no mi mc mv mo mk mt ms mu rr rg rm mr mg mm mw v = some (nI G, nI 0, z1, z2, dp, nI N, tx, nI G, nI M, nI G, nI M, nI 0, nI 0, nI 0, mc, mv, mo, mk, mt, ms, mu, rr', rg', rm', mr', mg', mm', mw') ∧ ru' ≤ 1 ∧ TO G M pd cn th' tf' ts' ta' tw' tn' mr' mg' mm' ∧ RC G M th' bk 0 c' mw') ∨ (∃ (r : Int32) (n' N' : Nat) (a1 ru1 ls1 : Int32) (vl1 lc1 : Nat → Int32) (x1 x2 x3 x4 z1 z2 z3 z4 z5 z6 : Int32) (ho' fe' st' af' we' ne' ll' c0 c1 c2 c3 mc' mv' mo' mk' mt' ms' mu' rr' rg' rm' : Nat → Int32), f_X11_text t llT plT pmT puT xi (nI n) a ru vl ls lc v1 v2 v3 v4 th tf ts ta tw tn w1 w2 w3 w4 ho fe st af we ne (nI N) ll l0 l1 l2 l3 c as sgs v = some (r, xi, nI n', a1, ru1, vl1, ls1, lc1, v1, v2, v3, v4, th, tf, ts, ta, tw, tn, x1, x2, x3, x4, ho', fe', st', af', we', ne', nI N', ll', c0, c1, c2, c3, c, as, sgs) ∧ f_X12_text u (nI n) y1 y2 dp (nI N) tx y3 y4 g m ma no mi mc mv mo mk mt ms mu rr rg rm mr mg mm mw v = some (r, nI n', z1, z2, z3, nI N', z4, z5, z6, g, m, ma, no, mi, mc', mv', mo', mk', mt', ms', mu', rr', rg', rm', mr, mg, mm, mw) ∧ (ru1 = nI 0 ∨ ru1 = nI 1) ∧ n' ≤ n ∧ N ≤ N' ∧ RLw N' ll' c0 c1 c2 c3 mc' mv' mk' mt' ms' mu') := by
  have ru01 : ∀ k : Nat, k ≤ 1 → (nI k = nI 0 ∨ nI k = nI 1) := fun k hk => by
    have : k = 0 ∨ k = 1 := by omega
    rcases this with rfl | rfl
    · exact Or.inl rfl
    · exact Or.inr rfl
  by_cases q0 : v = nI 0
  · subst q0
    rcases s_takePeace hn h tb bk xi a ru v1 v2 v3 v4 w1 w2 w3 w4 as sgs y1 y2 y3 y4 g m ma no mi vl th tf ts ta tw tn ho fe st af we ne c rr rg rm mr mg mm mw with ⟨ru', vl', G, M, pd, cn, th', tf', ts', ta', tw', tn', ho', fe', st', af', we', ne', c', rr', rg', rm', mr', mg', mm', mw', e1, e2, e3, e4, e5, e6⟩ | ⟨a', ru', vl', G, M, pd, cn, ho', fe', st', af', we', ne', G', M', rr', rg', rm', e0, e3, e1, e2⟩
    · left
      refine ⟨ru', vl', G, M, pd, cn, nI n, mI 1, th', tf', ts', ta', tw', tn', ho', fe', st', af', we', ne', c', rr', rg', rm', mr', mg', mm', mw', ?_, ?_, e4, e5, e6⟩
      · rw [text0_l, e1, ob29_e]
      · unfold f_X12_text b_X12_text_0
        rw [if_pos (show nI 0 = (0 : Int32) from rfl), e2, ob8_e, if_pos (show mI 1 = (-1 : Int32) from rfl), e3, ob10_e]
        rfl
    · right
      refine ⟨mI 1, n, N, nI a', nI ru', ls, vl', lc, G, M, pd, cn, nI a', nI a', dp, tx, G', M', ho', fe', st', af', we', ne', ll, l0, l1, l2, l3, mc, mv, mo, mk, mt, ms, mu, rr', rg', rm', ?_, ?_, ru01 ru' e3, Nat.le_refl _, Nat.le_refl _, hL⟩
      · rw [text0_l, e1, ob29_e]
      · unfold f_X12_text b_X12_text_0
        rw [if_pos (show nI 0 = (0 : Int32) from rfl), e2, ob8_e, if_neg (show ¬ nI a' = (-1 : Int32) from nI_nm (by omega))]
        unfold b_X12_text_22
        rw [if_neg (show ¬ nI 0 = (1 : Int32) by decide)]
        rfl
  have q0' : ¬ v = (0 : Int32) := q0
  right
  by_cases q1 : v = nI 1
  · subst q1
    rcases Nat.lt_or_ge N 4 with hN | hN
    · obtain ⟨r, N', n', a', s', lc', ll', c0, c1, c2, c3, p1, p2, p3, p4, mc', mv', mo', mk', mt', ms', mu', e1, e2, e3, e4⟩ := s_takeLaw hn h tl hL a ls y1 y2 dp tx lc mo hN
      have h4 : ¬ ((4 : Int32) ≤ nI N) := by rw [lit_nI, nI_leI (by omega) (by omega)]; exact Nat.not_le.mpr hN
      refine ⟨r, n', N', a', ru, s', vl, lc', w1, w2, w3, w4, p2, p3, p4, nI N, y3, y4, ho, fe, st, af, we, ne, ll', c0, c1, c2, c3, mc', mv', mo', mk', mt', ms', mu', rr, rg, rm, ?_, ?_, hru, ?_, ?_, e3⟩
      · rw [text1_l, e1, ob11_e]
      · unfold f_X12_text b_X12_text_0
        rw [if_neg q0']
        unfold b_X12_text_22
        rw [if_pos (show nI 1 = (1 : Int32) from rfl), if_neg h4, e2, ob12_e]
        rcases e4 with ⟨rfl, rfl, rfl, rfl⟩ | ⟨ep, rfl, rfl, rfl⟩
        · rw [if_pos (show mI 1 = (-1 : Int32) from rfl)]
          simp only [bnd_def, lit_nI, nI_add]
          rw [pk_sub (by omega), Nat.add_sub_cancel]
        · rw [if_neg (show ¬ p1 = (-1 : Int32) from ep)]
          rfl
      · rcases e4 with ⟨_, _, _, rfl⟩ | ⟨_, _, _, rfl⟩ <;> omega
      · rcases e4 with ⟨_, _, rfl, _⟩ | ⟨_, _, rfl, _⟩ <;> omega
    · have h4 := hL.1
      obtain rfl : N = 4 := by omega
      refine ⟨mI 1, n, 4, a, ru, ls, vl, lc, w1, w2, w3, w4, y1, y2, dp, tx, y3, y4, ho, fe, st, af, we, ne, ll, l0, l1, l2, l3, mc, mv, mo, mk, mt, ms, mu, rr, rg, rm, ?_, ?_, hru, Nat.le_refl _, Nat.le_refl _, hL⟩
      · rw [text1_l]
        unfold hd_takeLaw
        rw [full_y, ob1_e, if_neg (show ¬ nI 1 = (0 : Int32) by decide), ob11_e]
        rfl
      · unfold f_X12_text b_X12_text_0
        rw [if_neg q0']
        unfold b_X12_text_22
        rw [if_pos (show nI 1 = (1 : Int32) from rfl), if_pos (show (4 : Int32) ≤ nI 4 by decide)]
        rfl
  · have q1' : ¬ v = (1 : Int32) := q1
    refine ⟨mI 1, n, N, a, ru, ls, vl, lc, w1, w2, w3, w4, y1, y2, dp, tx, y3, y4, ho, fe, st, af, we, ne, ll, l0, l1, l2, l3, mc, mv, mo, mk, mt, ms, mu, rr, rg, rm, ?_, ?_, hru, Nat.le_refl _, Nat.le_refl _, hL⟩
    · unfold f_X11_text b_X11_text_0
      rw [if_neg q0']
      unfold b_X11_text_19
      rw [if_neg q1']
      rfl
    · unfold f_X12_text b_X12_text_0
      rw [if_neg q0']
      unfold b_X12_text_22
      rw [if_neg q1']
      rfl
end TY
