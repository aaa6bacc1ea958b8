/-! a peace is taken alike by both -/
/-- what is told, by both -/
def TO (G M : Nat) (pd cn : Int32) (th tf ts ta tw tn mr mg mm : Nat → Int32) : Prop := RP G M pd cn th tf ts ta tw tn mr mg mm ∧ 0 < cnt th (nI 0) G ∧ 0 < cnt th (nI 1) G
theorem cnt_cong {a b : Nat → Int32} {h : Int32} : ∀ k, (∀ i, i < k → b i = a i) → cnt b h k = cnt a h k
  | 0, _ => rfl
  | k + 1, e => by
    have ih := cnt_cong (a := a) (b := b) (h := h) k (fun i hi => e i (by omega))
    by_cases q : a k = h
    · rw [cnt_y q, cnt_y (by rw [e k (by omega)]; exact q), ih]
    · rw [cnt_n q, cnt_n (by rw [e k (by omega)]; exact q), ih]
theorem RP_cong {G M : Nat} {pd cn : Int32} {ho fe st af we ne rr rg rm th tf ts ta tw tn mr mg mm : Nat → Int32} (h : RP G M pd cn ho fe st af we ne rr rg rm) (e1 : ∀ i, i < 6 → th i = ho i) (e2 : ∀ i, i < 6 → tf i = fe i) (e3 : ∀ i, i < 6 → ts i = st i) (e4 : ∀ i, i < 6 → ta i = af i) (e5 : ∀ i, i < 5 → tw i = we i) (e6 : ∀ i, i < 5 → tn i = ne i) (e7 : ∀ i, i < 2 → mr i = rr i) (e8 : ∀ i, i < 24 → mg i = rg i) (e9 : ∀ i, i < 10 → mm i = rm i) : RP G M pd cn th tf ts ta tw tn mr mg mm := by
  obtain ⟨h1, h2, h3, h4, h5, h6⟩ := h
  refine ⟨h1, h2, by rw [e7 0 (by omega)]; exact h3, by rw [e7 1 (by omega)]; exact h4, fun g hg => ?_, fun m hm => ?_⟩
  · rw [e8 (4 * g) (by omega), e8 (4 * g + 1) (by omega), e8 (4 * g + 2) (by omega), e8 (4 * g + 3) (by omega), e1 g (by omega), e2 g (by omega), e3 g (by omega), e4 g (by omega)]
    exact h5 g hg
  · rw [e9 (2 * m) (by omega), e9 (2 * m + 1) (by omega), e5 m (by omega), e6 m (by omega)]
    exact h6 m hm
/-- what the text of a peace does, reading and taking -/
noncomputable def hd_takePeace (tape_bytes : Nat → Int32) (plT : Nat → Int32) (pmT : Nat → Int32) (puT : Nat → Int32) (x_imaged : Int32) (tape_length : Int32) (tape_at : Int32) (pr_ruled : Int32) (pr_values : Nat → Int32) (told_gloves : Int32) (told_matters : Int32) (told_pride : Int32) (told_coins : Int32) (told_house : Nat → Int32) (told_free : Nat → Int32) (told_stuffed : Nat → Int32) (told_after : Nat → Int32) (told_weight : Nat → Int32) (told_need : Nat → Int32) (read_gloves : Int32) (read_matters : Int32) (read_pride : Int32) (read_coins : Int32) (read_house : Nat → Int32) (read_free : Nat → Int32) (read_stuffed : Nat → Int32) (read_after : Nat → Int32) (read_weight : Nat → Int32) (read_need : Nat → Int32) (now_cells : Nat → Int32) (acts_size : Int32) (sg_size : Int32) : Option (Int32 × Int32 × Int32 × Int32 × Int32 × (Nat → Int32) × Int32 × Int32 × Int32 × Int32 × (Nat → Int32) × (Nat → Int32) × (Nat → Int32) × (Nat → Int32) × (Nat → Int32) × (Nat → Int32) × Int32 × Int32 × Int32 × Int32 × (Nat → Int32) × (Nat → Int32) × (Nat → Int32) × (Nat → Int32) × (Nat → Int32) × (Nat → Int32) × (Nat → Int32) × Int32 × Int32) :=
  ob14 (f_X6_readsAll tape_length tape_bytes plT pmT puT tape_at pr_ruled pr_values read_gloves read_matters read_pride read_coins read_house read_free read_stuffed read_after read_weight read_need) fun r_1 tape_at_2 pr_ruled_3 pr_values_4 read_gloves_5 read_matters_6 read_pride_7 read_coins_8 read_house_9 read_free_10 read_stuffed_11 read_after_12 read_weight_13 read_need_14 =>
  if r_1 = (0 : Int32) then
    some ((-1 : Int32), x_imaged, tape_length, tape_at_2, pr_ruled_3, pr_values_4, told_gloves, told_matters, told_pride, told_coins, told_house, told_free, told_stuffed, told_after, told_weight, told_need, read_gloves_5, read_matters_6, read_pride_7, read_coins_8, read_house_9, read_free_10, read_stuffed_11, read_after_12, read_weight_13, read_need_14, now_cells, acts_size, sg_size)
  else
    ob10 (f_X5_copyFrom read_gloves_5 read_matters_6 read_pride_7 read_coins_8 read_house_9 read_free_10 read_stuffed_11 read_after_12 read_weight_13 read_need_14 told_gloves told_matters told_pride told_coins told_house told_free told_stuffed told_after told_weight told_need) fun told_gloves_16 told_matters_17 told_pride_18 told_coins_19 told_house_20 told_free_21 told_stuffed_22 told_after_23 told_weight_24 told_need_25 =>
    ob1 (f_X9_begin told_pride_18 told_coins_19 told_free_21 told_stuffed_22 now_cells) fun now_cells_27 =>
    ob1 (f_X0_forget acts_size) fun acts_size_29 =>
    some (told_gloves_16, (0 : Int32), (0 : Int32), tape_at_2, pr_ruled_3, pr_values_4, told_gloves_16, told_matters_17, told_pride_18, told_coins_19, told_house_20, told_free_21, told_stuffed_22, told_after_23, told_weight_24, told_need_25, read_gloves_5, read_matters_6, read_pride_7, read_coins_8, read_house_9, read_free_10, read_stuffed_11, read_after_12, read_weight_13, read_need_14, now_cells_27, acts_size_29, (0 : Int32))
section TP
variable {n : Nat} {t u plT pmT puT : Nat → Int32}
theorem copyP {a b c d a' b' c' d' : Int32} {ho fe st af we ne th tf ts ta tw tn : Nat → Int32} : f_X5_copyFrom a b c d ho fe st af we ne a' b' c' d' th tf ts ta tw tn = some (a, b, c, d, va_cpy ho th 0 0 6, va_cpy fe tf 0 0 6, va_cpy st ts 0 0 6, va_cpy af ta 0 0 6, va_cpy we tw 0 0 5, va_cpy ne tn 0 0 5) := by
  simp (disch := omega) only [f_X5_copyFrom, b_X5_copyFrom_0, spB_c, neg_nI, lit_nI, nI_add, pk_mul, pk_sub, nI_clamp, inB_nI, gd_true, bnd_def, nI_leI, nI_ltI, nI_eq, nI_mI, mI_nI, nle_T, nle_F, nlt_T, nlt_F, neq_T, neq_F, ↓reduceIte, Nat.add_zero, Nat.zero_add, Nat.mul_zero, Nat.reduceAdd, Nat.reduceMul, Nat.reduceSub]
/-- the first state by both -/
theorem first_RC {G M : Nat} {pd cn : Int32} {th tf ts ta tw tn mr mg mm c m : Nat → Int32} (bk : Nat → Int32) (h : RP G M pd cn th tf ts ta tw tn mr mg mm) (x1 : ∀ i, i < 36 → c i = nI 0) (x2 : bgG tf ts 6 c) (x3 : ∀ m, m < 5 → c (60 + m) = mI 1) (x4 : c 65 = nI 0) (x5 : c 66 = pd) (x6 : c 67 = cn) (x7 : c 68 = nI 0) (y1 : tkZ m) (y2 : bgG (fun g => mg (4 * g + 1)) (fun g => mg (4 * g + 2)) G m) (y3 : ∀ k, k < M → m (60 + k) = mI 1) (y4 : m 66 = mr 0) (y5 : m 67 = mr 1) : RC G M th bk 0 c m := by
  obtain ⟨h1, h2, h3, h4, h5, h6⟩ := h
  obtain ⟨z1, z2, z3, z4⟩ := y1
  refine ⟨?_, ⟨fun i hi => ⟨0, by omega, x1 i hi, Or.inl rfl⟩, fun g hg => ?_, 0, by omega, x7⟩, ⟨x7, by omega⟩, ?_, fun r hr => by omega⟩
  · intro i hi
    rcases hi with q | ⟨q, q'⟩ | ⟨q, q'⟩ | ⟨q, q'⟩ | ⟨q, q'⟩ | ⟨q, q'⟩ | ⟨q, q'⟩
    · rw [z1 i q, x1 i q]
    · obtain ⟨g, rfl⟩ : ∃ g, i = 36 + g := ⟨i - 36, by omega⟩
      rw [(y2 g (by omega)).1, (x2 g (by omega)).1]
      exact (h5 g (by omega)).2.1.1
    · obtain ⟨g, rfl⟩ : ∃ g, i = 42 + g := ⟨i - 42, by omega⟩
      rw [(y2 g (by omega)).2.1, (x2 g (by omega)).2.1]
      exact (h5 g (by omega)).2.2.1.1
    · obtain ⟨g, rfl⟩ : ∃ g, i = 48 + g := ⟨i - 48, by omega⟩
      rw [(y2 g (by omega)).2.2.1, (x2 g (by omega)).2.2.1]
    · obtain ⟨g, rfl⟩ : ∃ g, i = 54 + g := ⟨i - 54, by omega⟩
      rw [(y2 g (by omega)).2.2.2, (x2 g (by omega)).2.2.2]
    · obtain ⟨g, rfl⟩ : ∃ g, i = 60 + g := ⟨i - 60, by omega⟩
      rw [y3 g (by omega), x3 g (by omega)]
    · have e : i = 65 ∨ i = 66 ∨ i = 67 ∨ i = 68 := by omega
      rcases e with rfl | rfl | rfl | rfl
      · rw [z2, x4]
      · rw [y4, x5, h3.1]
      · rw [y5, x6, h4.1]
      · rw [z3, x7]
  · obtain ⟨x, hx, e⟩ := (h5 g hg).2.1.2
    exact ⟨x, hx, by rw [(x2 g (by omega)).1, e]⟩
  · exact z4
theorem s_takePeace (hn : n ≤ 240) (h : RT n t u) (tb : TB plT pmT puT) (bk : Nat → Int32) (xi a ru v1 v2 v3 v4 w1 w2 w3 w4 as sgs y1 y2 y3 y4 g m ma mo mi : Int32) (vl th tf ts ta tw tn ho fe st af we ne c rr rg rm mr mg mm mw : Nat → Int32) : (∃ (ru' : Nat) (vl' : Nat → Int32) (G M : Nat) (pd cn : Int32) (th' tf' ts' ta' tw' tn' ho' fe' st' af' we' ne' c' rr' rg' rm' mr' mg' mm' mw' : Nat → Int32), hd_takePeace t plT pmT puT xi (nI n) a ru vl v1 v2 v3 v4 th tf ts ta tw tn w1 w2 w3 w4 ho fe st af we ne c as sgs = some (nI G, nI 0, nI 0, nI n, nI ru', vl', nI G, nI M, pd, cn, th', tf', ts', ta', tw', tn', nI G, nI M, pd, cn, ho', fe', st', af', we', ne', c', nI 0, nI 0) ∧ f_X12_readPeace (nI n) u y1 y2 y3 y4 rr rg rm = some (mI 1, nI n, mI 1, nI G, nI M, rr', rg', rm') ∧ f_X12_takePeace (nI G) (nI M) rr' rg' rm' g m ma mo mi mr mg mm mw = some (nI G, nI G, nI M, nI 0, nI 0, nI 0, mr', mg', mm', mw') ∧ ru' ≤ 1 ∧ TO G M pd cn th' tf' ts' ta' tw' tn' mr' mg' mm' ∧ RC G M th' bk 0 c' mw') ∨ (∃ (a' ru' : Nat) (vl' : Nat → Int32) (G M pd cn : Int32) (ho' fe' st' af' we' ne' : Nat → Int32) (G' M' : Int32) (rr' rg' rm' : Nat → Int32), a' ≤ n ∧ ru' ≤ 1 ∧ hd_takePeace t plT pmT puT xi (nI n) a ru vl v1 v2 v3 v4 th tf ts ta tw tn w1 w2 w3 w4 ho fe st af we ne c as sgs = some (mI 1, xi, nI n, nI a', nI ru', vl', v1, v2, v3, v4, th, tf, ts, ta, tw, tn, G, M, pd, cn, ho', fe', st', af', we', ne', c, as, sgs) ∧ f_X12_readPeace (nI n) u y1 y2 y3 y4 rr rg rm = some (nI a', nI a', nI a', G', M', rr', rg', rm')) := by
  rcases s_peace hn h tb a ru w1 w2 w3 w4 y1 y2 y3 y4 vl ho fe st af we ne rr rg rm with ⟨ru', vl', G, M, pd, cn, ho', fe', st', af', we', ne', rr', rg', rm', e1, e2, e3, e4, e5, e6⟩ | ⟨a', ru', vl', G, M, pd, cn, ho', fe', st', af', we', ne', G', M', rr', rg', rm', e0, e3, e1, e2⟩
  · left
    obtain ⟨mr', mg', mm', mw', k1, k2, k3, k4, k5, k6, k7, k8, k9⟩ := tk_c (rr := rr') (rg := rg') (rm := rm') e4.1 e4.2.1 g m ma mo mi mr mg mm mw
    obtain ⟨c', b1, b2, b3, b4, b5, b6, b7, b8⟩ := bg_c (pd := pd) (cn := cn) (fe := va_cpy fe' tf 0 0 6) (st := va_cpy st' ts 0 0 6) c
    have hR : RP G M pd cn (va_cpy ho' th 0 0 6) (va_cpy fe' tf 0 0 6) (va_cpy st' ts 0 0 6) (va_cpy af' ta 0 0 6) (va_cpy we' tw 0 0 5) (va_cpy ne' tn 0 0 5) mr' mg' mm' := RP_cong e4 (fun i hi => cpy0 hi) (fun i hi => cpy0 hi) (fun i hi => cpy0 hi) (fun i hi => cpy0 hi) (fun i hi => cpy0 hi) (fun i hi => cpy0 hi) k2 k3 k4
    have hG := e4.1
    refine ⟨ru', vl', G, M, pd, cn, va_cpy ho' th 0 0 6, va_cpy fe' tf 0 0 6, va_cpy st' ts 0 0 6, va_cpy af' ta 0 0 6, va_cpy we' tw 0 0 5, va_cpy ne' tn 0 0 5, ho', fe', st', af', we', ne', c', rr', rg', rm', mr', mg', mm', mw', ?_, e2, k1, e3, ⟨hR, ?_, ?_⟩, first_RC bk hR b2 b3 b4 b5 b6 b7 b8 k5 k6 k7 k8 k9⟩
    · unfold hd_takePeace
      rw [e1, ob14_e, if_neg (show ¬ nI 1 = (0 : Int32) by decide), copyP, ob10_e, b1, ob1_e]
      rfl
    · rw [cnt_cong G (fun i hi => cpy0 (show i < 6 by omega))]; exact e5
    · rw [cnt_cong G (fun i hi => cpy0 (show i < 6 by omega))]; exact e6
  · right
    refine ⟨a', ru', vl', G, M, pd, cn, ho', fe', st', af', we', ne', G', M', rr', rg', rm', e0, e3, ?_, e2⟩
    unfold hd_takePeace
    rw [e1, ob14_e, if_pos (show nI 0 = (0 : Int32) from rfl)]
    rfl
end TP
