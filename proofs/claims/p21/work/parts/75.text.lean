/-! faults and texts by both -/
section TX
variable {n : Nat} {t u llT plT pmT puT : Nat → Int32}
theorem s_fault (hn : n ≤ 240) (h : RT n t u) (tb : TB plT pmT puT) (tl : LT6 llT) {N : Nat} {ll l0 l1 l2 l3 mc mv mk mt ms mu : Nat → Int32} (hL : RLw N ll l0 l1 l2 l3 mc mv mk mt ms mu) (at' ru ls w1 w2 w3 w4 y1 y2 y3 y4 y5 y6 v : Int32) (vl lc ho fe st af we ne mo rr rg rm : Nat → Int32) (hru : ru = nI 0 ∨ ru = nI 1) : ∃ r a1 ru1 vl1 ls1 lc1 v1 v2 v3 v4 ho1 fe1 st1 af1 we1 ne1 z1 z2 z3 z4 z5 z6 mc1 mv1 mo1 mk1 mt1 ms1 mu1 rr1 rg1 rm1, f_X11_fault (nI n) t llT plT pmT puT at' ru vl ls lc w1 w2 w3 w4 ho fe st af we ne v = some (r, a1, ru1, vl1, ls1, lc1, v1, v2, v3, v4, ho1, fe1, st1, af1, we1, ne1) ∧ f_X12_fault (nI n) u y1 y2 y3 y4 y5 y6 mc mv mo mk mt ms mu rr rg rm v = some (r, z1, z2, z3, z4, z5, z6, mc1, mv1, mo1, mk1, mt1, ms1, mu1, rr1, rg1, rm1) ∧ (ru1 = nI 0 ∨ ru1 = nI 1) ∧ RLw N ll l0 l1 l2 l3 mc1 mv1 mk1 mt1 ms1 mu1 := by
  have ru01 : ∀ k : Nat, k ≤ 1 → (nI k = nI 0 ∨ nI k = nI 1) := fun k hk => by
    have : k = 0 ∨ k = 1 := by omega
    rcases this with rfl | rfl
    · exact Or.inl rfl
    · exact Or.inr rfl
  by_cases q0 : v = nI 0
  · subst q0
    rcases s_peace hn h tb at' ru w1 w2 w3 w4 y1 y2 y5 y6 vl ho fe st af we ne rr rg rm with ⟨ru', vl', G, M, pd, cn, ho', fe', st', af', we', ne', rr', rg', rm', e1, e2, e3, e4, e5, e6⟩ | ⟨a', ru', vl', G, M, pd, cn, ho', fe', st', af', we', ne', G', M', rr', rg', rm', e0, e3, e1, e2⟩
    · refine ⟨mI 1, nI n, nI ru', vl', ls, lc, nI G, nI M, pd, cn, ho', fe', st', af', we', ne', nI n, mI 1, y3, y4, nI G, nI M, mc, mv, mo, mk, mt, ms, mu, rr', rg', rm', ?_, ?_, ru01 ru' e3, hL⟩
      · unfold f_X11_fault b_X11_fault_0
        rw [if_pos (show nI 0 = (0 : Int32) from rfl)]
        unfold b_X11_fault_12
        rw [if_pos (show nI 0 = (0 : Int32) from rfl), e1, ob14_e]
        unfold b_X11_fault_33
        rw [if_neg (show ¬ nI 1 = (0 : Int32) by decide)]
        rfl
      · unfold f_X12_fault b_X12_fault_0
        rw [if_pos (show nI 0 = (0 : Int32) from rfl), e2, ob8_e]
    · refine ⟨nI a', nI a', nI ru', vl', ls, lc, G, M, pd, cn, ho', fe', st', af', we', ne', nI a', nI a', y3, y4, G', M', mc, mv, mo, mk, mt, ms, mu, rr', rg', rm', ?_, ?_, ru01 ru' e3, hL⟩
      · unfold f_X11_fault b_X11_fault_0
        rw [if_pos (show nI 0 = (0 : Int32) from rfl)]
        unfold b_X11_fault_12
        rw [if_pos (show nI 0 = (0 : Int32) from rfl), e1, ob14_e]
        unfold b_X11_fault_33
        rw [if_pos (show nI 0 = (0 : Int32) from rfl)]
      · unfold f_X12_fault b_X12_fault_0
        rw [if_pos (show nI 0 = (0 : Int32) from rfl), e2, ob8_e]
  have q0' : ¬ v = (0 : Int32) := q0
  by_cases q1 : v = nI 1
  · subst q1
    rcases s_readLaw hn h tl (tx := 4) (by omega) at' ls y1 y2 y3 y4 lc mc mv mo mk mt ms mu with ⟨CS, mo2, mk2, mt2, ms2, mu2, g1, g2, g3, g4, g5, g6, g7, g8, g9⟩ | ⟨a, z1, z2, p, q, mc2, mv2, mo2, mk2, mt2, ms2, mu2, g1, g2, g3, g4⟩
    · refine ⟨mI 1, nI n, ru, vl, nI (XS CS).length, ap cs lc 0 (XS CS), w1, w2, w3, w4, ho, fe, st, af, we, ne, nI n, mI 1, nI 0, nI 4, y5, y6, ap tc mc (520 * 4) (YS CS), ap tv mv (520 * 4) (YS CS), mo2, mk2, mt2, ms2, mu2, rr, rg, rm, ?_, ?_, hru, RLw_frm hL.1 hL g9⟩
      · unfold f_X11_fault b_X11_fault_0
        rw [if_neg q0', if_pos (show nI 1 = (1 : Int32) from rfl)]
        unfold b_X11_fault_12
        rw [if_neg q0', g5, ob4_e]
        unfold b_X11_fault_33
        rw [if_neg (show ¬ nI 1 = (0 : Int32) by decide)]
        rfl
      · unfold f_X12_fault b_X12_fault_0
        rw [if_neg q0', if_pos (show nI 1 = (1 : Int32) from rfl)]
        rw [show f_X12_readLaw (nI n) u y1 y2 y3 y4 mc mv mo mk mt ms mu (4 : Int32) = _ from g6, ob12_e]
    · refine ⟨nI a, nI a, ru, vl, z1, z2, w1, w2, w3, w4, ho, fe, st, af, we, ne, p, nI a, q, nI 4, y5, y6, mc2, mv2, mo2, mk2, mt2, ms2, mu2, rr, rg, rm, ?_, ?_, hru, RLw_frm hL.1 hL g4⟩
      · unfold f_X11_fault b_X11_fault_0
        rw [if_neg q0', if_pos (show nI 1 = (1 : Int32) from rfl)]
        unfold b_X11_fault_12
        rw [if_neg q0', g2, ob4_e]
        unfold b_X11_fault_33
        rw [if_pos (show nI 0 = (0 : Int32) from rfl)]
      · unfold f_X12_fault b_X12_fault_0
        rw [if_neg q0', if_pos (show nI 1 = (1 : Int32) from rfl)]
        rw [show f_X12_readLaw (nI n) u y1 y2 y3 y4 mc mv mo mk mt ms mu (4 : Int32) = _ from g3, ob12_e]
  · have q1' : ¬ v = (1 : Int32) := q1
    refine ⟨mI 2, at', ru, vl, ls, lc, w1, w2, w3, w4, ho, fe, st, af, we, ne, y1, y2, y3, y4, y5, y6, mc, mv, mo, mk, mt, ms, mu, rr, rg, rm, ?_, ?_, hru, hL⟩
    · unfold f_X11_fault b_X11_fault_0
      rw [if_neg q0', if_neg q1']
      rfl
    · unfold f_X12_fault b_X12_fault_0
      rw [if_neg q0', if_neg q1']
      rfl
end TX
