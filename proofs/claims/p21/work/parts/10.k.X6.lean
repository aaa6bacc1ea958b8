abbrev rm_X6_kindOf : Room := { frames := 0, cells := 0, slots := 0, locals := 0 }
set_option maxHeartbeats 4000000 in
set_option maxRecDepth 100000 in
theorem q_X6_kindOf_0 {p : Program} {l : Launch} {e : Env} {s : State} {m : MethodId} {args : Array Value} {below : List Frame} {meth : Method} {c : Code} {sx : List sx_T} {D : va_G} {cI cZ cO : ClassId} {A : Nat → Prop} (C : Cx p s m args meth c RX6 wsX6_kindOf cX6_kindOf 1 (some .int)) (K : Kx sx D (tyL cI cZ cO) A s) (r0 : Int32)    (v0 : Int32) {H : Heap} {locs : List Loc} {ls : Array Slot} (hf : b_X6_kindOf_0   v0 = some r0) (hw : Wo D A s [] H locs) (hl : lv_has ls 1 [(0, .int v0)]) : W p l e rm_X6_kindOf s m args below meth c H locs 0 0 (MQ below (QcI D A r0 []) args s 0 0 A) (F0 m 0 ls []) := by
  obtain ⟨hx, hb, hml, hown, hts, hr, hlk⟩ := id C
  obtain ⟨hK, hX, hA⟩ := id K
  unfold b_X6_kindOf_0 at hf
  refine lv_iload_n hx hb dX6_kindOf_0 rfl (lv_at hl 0 rfl) ?_
  refine lv_bipush (v := (115 : Int32)) hx hb dX6_kindOf_1 (by decide) ?_
  refine lv_icmp_ne (tgt := 8) hx hb dX6_kindOf_3 (by decide) (fun hc => ?_) (fun hc => ?_)
  · have hf := (if_neg hc).symm.trans hf
    refine lv_iload_n hx hb dX6_kindOf_8 rfl (lv_at hl 0 rfl) ?_
    refine lv_bipush (v := (103 : Int32)) hx hb dX6_kindOf_9 (by decide) ?_
    refine lv_icmp_ne (tgt := 16) hx hb dX6_kindOf_11 (by decide) (fun hc => ?_) (fun hc => ?_)
    · have hf := (if_neg hc).symm.trans hf
      refine lv_iload_n hx hb dX6_kindOf_16 rfl (lv_at hl 0 rfl) ?_
      refine lv_bipush (v := (109 : Int32)) hx hb dX6_kindOf_17 (by decide) ?_
      refine lv_icmp_ne (tgt := 26) hx hb dX6_kindOf_19 (by decide) (fun hc => ?_) (fun hc => ?_)
      · have hf := (if_neg hc).symm.trans hf
        refine lv_iconst (v := (-1 : Int32)) hx hb dX6_kindOf_26 (by decide) ?_
        cases hf
        exact retI C hw dX6_kindOf_27 rfl
      · have hf := (if_pos hc).symm.trans hf
        refine lv_iconst (v := (2 : Int32)) hx hb dX6_kindOf_22 (by decide) ?_
        refine lv_goto (tgt := 27) hx hb dX6_kindOf_23 (by decide) ?_
        cases hf
        exact retI C hw dX6_kindOf_27 rfl
    · have hf := (if_pos hc).symm.trans hf
      refine lv_iconst (v := (1 : Int32)) hx hb dX6_kindOf_14 (by decide) ?_
      cases hf
      exact retI C hw dX6_kindOf_15 rfl
  · have hf := (if_pos hc).symm.trans hf
    refine lv_iconst (v := (0 : Int32)) hx hb dX6_kindOf_6 (by decide) ?_
    cases hf
    exact retI C hw dX6_kindOf_7 rfl
set_option maxHeartbeats 4000000 in
set_option maxRecDepth 100000 in
theorem k_X6_kindOf {l : Launch} {sx : List sx_T} {D : va_G} {cI cZ cO : ClassId} (r0 : Int32) (p1 : Int32) (hF : f_X6_kindOf p1 = some r0) : CtI l yX6_kindOf wsX6_kindOf rm_X6_kindOf sx D (tyL cI cZ cO) [.int p1] [] r0 [] := by
  refine ctI_of (cc := cX6_kindOf) (ret := (some .int)) (maxL := 1) (by decide) rfl (Nat.le_of_ble_eq_true rfl) ?_
  intro p e s m below meth c A ls C K hw hl
  exact q_X6_kindOf_0 C K r0 p1 hF hw (lv_sub hl [0] rfl)
abbrev rm_X6_isTooMany : Room := { frames := 0, cells := 0, slots := 0, locals := 0 }
theorem in_X6_isTooMany_X6 : ∀ w ∈ u_ws RX6 TX6 4, w ∈ wsX6_isTooMany := fun w h => List.mem_cons_of_mem _ (bi_wsX60 w h)
theorem in_X6_isTooMany_X5 : ∀ w ∈ u_ws RX5 TX5 10, w ∈ wsX6_isTooMany := fun w h => List.mem_cons_of_mem _ (bi_wsX50 w h)
theorem lk_X6_isTooMany_0 : Cond.fieldLink RX6 12 "GloveHouses$PeaceReader" "read" "LGloveHouses$Peace;" ∈ wsX6_isTooMany := List.mem_cons_of_mem _ (bi_wsL_law0_r4 _ (List.mem_of_getElem? (i := 3) rfl))
theorem lk_X6_isTooMany_1 : Cond.fieldLink RX6 39 "GloveHouses$Peace" "matters" "I" ∈ wsX6_isTooMany := List.mem_cons_of_mem _ (bi_wsL_law0_r9 _ (List.mem_of_getElem? (i := 20) rfl))
theorem lk_X6_isTooMany_2 : Cond.fieldLink RX6 36 "GloveHouses$Peace" "gloves" "I" ∈ wsX6_isTooMany := List.mem_cons_of_mem _ (bi_wsL_law0_r9 _ (List.mem_of_getElem? (i := 19) rfl))
theorem lk_X6_isTooMany_3 : Cond.fieldLink RX6 32 "GloveHouses$PeaceReader" "ruled" "Z" ∈ wsX6_isTooMany := List.mem_cons_of_mem _ (bi_wsL_law0_r9 _ (List.mem_of_getElem? (i := 18) rfl))
set_option maxHeartbeats 4000000 in
set_option maxRecDepth 100000 in
theorem q_X6_isTooMany_0 {p : Program} {l : Launch} {e : Env} {s : State} {m : MethodId} {args : Array Value} {below : List Frame} {meth : Method} {c : Code} {sx : List sx_T} {D : va_G} {cI cZ cO : ClassId} {A : Nat → Prop} (C : Cx p s m args meth c RX6 wsX6_isTooMany cX6_isTooMany 2 (some .boolean)) (K : Kx sx D (tyL cI cZ cO) A s) (a_pr : Nat) (a_read : Nat) (a_tape : Nat) (a_pr_values : Nat) (a_read_house : Nat) (a_read_free : Nat) (a_read_stuffed : Nat) (a_read_after : Nat) (a_read_weight : Nat) (a_read_need : Nat) (pr_ruled : Int32) (read_gloves : Int32) (read_matters : Int32) (read_pride : Int32) (read_coins : Int32) (r0 : Int32)    (v1 : Int32) {H : Heap} {locs : List Loc} {ls : Array Slot} (hf : b_X6_isTooMany_0 pr_ruled read_gloves read_matters  v1 = some r0) (hw : Wo D A s [(oX6 a_pr (.ref a_read) (.ref a_tape) (.ref a_pr_values) (.int pr_ruled)), (oX5 a_read (.int read_gloves) (.int read_matters) (.int read_pride) (.int read_coins) (.ref a_read_house) (.ref a_read_free) (.ref a_read_stuffed) (.ref a_read_after) (.ref a_read_weight) (.ref a_read_need))] H locs) (hl : lv_has ls 2 [(0, .ref a_pr), (1, .int v1)]) : W p l e rm_X6_isTooMany s m args below meth c H locs 0 0 (MQ below (QcI D A r0 [(oX6 a_pr (.ref a_read) (.ref a_tape) (.ref a_pr_values) (.int pr_ruled)), (oX5 a_read (.int read_gloves) (.int read_matters) (.int read_pride) (.int read_coins) (.ref a_read_house) (.ref a_read_free) (.ref a_read_stuffed) (.ref a_read_after) (.ref a_read_weight) (.ref a_read_need))]) args s 0 0 A) (F0 m 0 ls []) := by
  obtain ⟨hx, hb, hml, hown, hts, hr, hlk⟩ := id C
  obtain ⟨hK, hX, hA⟩ := id K
  unfold b_X6_isTooMany_0 at hf
  refine lv_iload_n hx hb dX6_isTooMany_0 rfl (lv_at hl 1 rfl) ?_
  refine lv_if_ne (tgt := 9) hx hb dX6_isTooMany_1 (by decide) (fun hc => ?_) (fun hc => ?_)
  · have hf := (if_neg hc).symm.trans hf
    refine lv_iload_n hx hb dX6_isTooMany_9 rfl (lv_at hl 1 rfl) ?_
    refine lv_iconst (v := (1 : Int32)) hx hb dX6_isTooMany_10 (by decide) ?_
    refine lv_icmp_ne (tgt := 34) hx hb dX6_isTooMany_11 (by decide) (fun hc => ?_) (fun hc => ?_)
    · have hf := (if_neg hc).symm.trans hf
      refine lv_aload_n hx hb dX6_isTooMany_34 rfl (lv_at hl 0 rfl) ?_
      refine va_get (ci := 6) (v := .ref a_read) (C := RX6) (T := TX6) (N := 4) hx hb hts in_X6_isTooMany_X6 hown hK hw.1 0 rfl rfl 0 (by decide) (hts _ lk_X6_isTooMany_0) (fun _ h9 => h9) rfl dX6_isTooMany_35 ?_
      refine va_get (ci := 5) (v := .int read_matters) (C := RX5) (T := TX5) (N := 10) hx hb hts in_X6_isTooMany_X5 hown hK hw.1 1 rfl rfl 1 (by decide) (hts _ lk_X6_isTooMany_1) (fun _ h9 => h9) rfl dX6_isTooMany_38 ?_
      refine lv_iconst (v := (5 : Int32)) hx hb dX6_isTooMany_41 (by decide) ?_
      refine lv_icmp_lt (tgt := 49) hx hb dX6_isTooMany_42 (by decide) (fun hc => ?_) (fun hc => ?_)
      · have hf := (if_pos hc).symm.trans hf
        refine lv_iconst (v := (0 : Int32)) hx hb dX6_isTooMany_49 (by decide) ?_
        cases hf
        exact retZ C hw dX6_isTooMany_50 (by decide) rfl
      · have hf := (if_neg hc).symm.trans hf
        refine lv_iconst (v := (1 : Int32)) hx hb dX6_isTooMany_45 (by decide) ?_
        refine lv_goto (tgt := 50) hx hb dX6_isTooMany_46 (by decide) ?_
        cases hf
        exact retZ C hw dX6_isTooMany_50 (by decide) rfl
    · have hf := (if_pos hc).symm.trans hf
      refine lv_aload_n hx hb dX6_isTooMany_14 rfl (lv_at hl 0 rfl) ?_
      refine va_get (ci := 6) (v := .ref a_read) (C := RX6) (T := TX6) (N := 4) hx hb hts in_X6_isTooMany_X6 hown hK hw.1 0 rfl rfl 0 (by decide) (hts _ lk_X6_isTooMany_0) (fun _ h9 => h9) rfl dX6_isTooMany_15 ?_
      refine va_get (ci := 5) (v := .int read_gloves) (C := RX5) (T := TX5) (N := 10) hx hb hts in_X6_isTooMany_X5 hown hK hw.1 1 rfl rfl 0 (by decide) (hts _ lk_X6_isTooMany_2) (fun _ h9 => h9) rfl dX6_isTooMany_18 ?_
      refine lv_bipush (v := (6 : Int32)) hx hb dX6_isTooMany_21 (by decide) ?_
      refine lv_icmp_lt (tgt := 30) hx hb dX6_isTooMany_23 (by decide) (fun hc => ?_) (fun hc => ?_)
      · have hf := (if_pos hc).symm.trans hf
        refine lv_iconst (v := (0 : Int32)) hx hb dX6_isTooMany_30 (by decide) ?_
        refine lv_goto (tgt := 50) hx hb dX6_isTooMany_31 (by decide) ?_
        cases hf
        exact retZ C hw dX6_isTooMany_50 (by decide) rfl
      · have hf := (if_neg hc).symm.trans hf
        refine lv_iconst (v := (1 : Int32)) hx hb dX6_isTooMany_26 (by decide) ?_
        refine lv_goto (tgt := 50) hx hb dX6_isTooMany_27 (by decide) ?_
        cases hf
        exact retZ C hw dX6_isTooMany_50 (by decide) rfl
  · have hf := (if_pos hc).symm.trans hf
    refine lv_aload_n hx hb dX6_isTooMany_4 rfl (lv_at hl 0 rfl) ?_
    refine va_get (ci := 6) (v := .int pr_ruled) (C := RX6) (T := TX6) (N := 4) hx hb hts in_X6_isTooMany_X6 hown hK hw.1 0 rfl rfl 3 (by decide) (hts _ lk_X6_isTooMany_3) (fun _ h9 => h9) rfl dX6_isTooMany_5 ?_
    obtain ⟨hc_1, hf⟩ := gd_some hf
    cases hf
    exact retZ C hw dX6_isTooMany_8 hc_1 rfl
set_option maxHeartbeats 4000000 in
set_option maxRecDepth 100000 in
theorem k_X6_isTooMany {l : Launch} {sx : List sx_T} {D : va_G} {cI cZ cO : ClassId} (a_pr : Nat) (a_read : Nat) (a_tape : Nat) (a_pr_values : Nat) (a_read_house : Nat) (a_read_free : Nat) (a_read_stuffed : Nat) (a_read_after : Nat) (a_read_weight : Nat) (a_read_need : Nat) (pr_ruled : Int32) (read_gloves : Int32) (read_matters : Int32) (read_pride : Int32) (read_coins : Int32) (r0 : Int32) (p1 : Int32) (hF : f_X6_isTooMany pr_ruled read_gloves read_matters p1 = some r0) : CtI l yX6_isTooMany wsX6_isTooMany rm_X6_isTooMany sx D (tyL cI cZ cO) [.ref a_pr, .int p1] [(oX6 a_pr (.ref a_read) (.ref a_tape) (.ref a_pr_values) (.int pr_ruled)), (oX5 a_read (.int read_gloves) (.int read_matters) (.int read_pride) (.int read_coins) (.ref a_read_house) (.ref a_read_free) (.ref a_read_stuffed) (.ref a_read_after) (.ref a_read_weight) (.ref a_read_need))] r0 [(oX6 a_pr (.ref a_read) (.ref a_tape) (.ref a_pr_values) (.int pr_ruled)), (oX5 a_read (.int read_gloves) (.int read_matters) (.int read_pride) (.int read_coins) (.ref a_read_house) (.ref a_read_free) (.ref a_read_stuffed) (.ref a_read_after) (.ref a_read_weight) (.ref a_read_need))] := by
  refine ctI_of (cc := cX6_isTooMany) (ret := (some .boolean)) (maxL := 2) (by decide) rfl (Nat.le_of_ble_eq_true rfl) ?_
  intro p e s m below meth c A ls C K hw hl
  exact q_X6_isTooMany_0 C K a_pr a_read a_tape a_pr_values a_read_house a_read_free a_read_stuffed a_read_after a_read_weight a_read_need pr_ruled read_gloves read_matters read_pride read_coins r0 p1 hF hw (lv_sub hl [0, 1] rfl)
abbrev rm_X6_itemOf : Room := { frames := 0, cells := 0, slots := 0, locals := 0 }
theorem lk_X6_itemOf_0 : Cond.fieldLink RX6 94 "GloveHouses$PeaceReader" "LETTERS" "[C" ∈ wsX6_itemOf := List.mem_cons_of_mem _ (bi_wsL_law0_r11 _ (List.mem_of_getElem? (i := 3) rfl))
set_option maxHeartbeats 4000000 in
set_option maxRecDepth 100000 in
theorem q_X6_itemOf_2 {p : Program} {l : Launch} {e : Env} {s : State} {m : MethodId} {args : Array Value} {below : List Frame} {meth : Method} {c : Code} {sx : List sx_T} {D : va_G} {cI cZ cO : ClassId} {A : Nat → Prop} (C : Cx p s m args meth c RX6 wsX6_itemOf cX6_itemOf 3 (some .int)) (K : Kx sx D (tyL cI cZ cO) A s) (b_plT : Nat) (plT : Nat → Int32) (r0 : Int32) (hs_plT : (("GloveHouses$PeaceReader", "LETTERS", "[C", b_plT, .char, 12, plT) : sx_T) ∈ sx)  (k2 : Int32 → Int32 → Int32 → Option (Int32)) (hk2 : ∀ (v0 : Int32) (v1 : Int32) (v2 : Int32) (H : Heap) (locs : List Loc) (ls : Array Slot), k2 v0 v1 v2 = some r0 → Wo D A s [] H locs → lv_has ls 3 [(0, .int v0), (1, .int v1), (2, .int v2)] → W p l e rm_X6_itemOf s m args below meth c H locs 0 0 (MQ below (QcI D A r0 []) args s 0 0 A) (F0 m 2 ls [])) (v0 : Int32) (v1 : Int32) (v2 : Int32) {H : Heap} {locs : List Loc} {ls : Array Slot} (hf : b_X6_itemOf_2 plT k2 v0 v1 v2 = some r0) (hw : Wo D A s [] H locs) (hl : lv_has ls 3 [(0, .int v0), (1, .int v1), (2, .int v2)]) : W p l e rm_X6_itemOf s m args below meth c H locs 0 0 (MQ below (QcI D A r0 []) args s 0 0 A) (F0 m 2 ls []) := by
  obtain ⟨hx, hb, hml, hown, hts, hr, hlk⟩ := id C
  obtain ⟨hK, hX, hA⟩ := id K
  unfold b_X6_itemOf_2 at hf
  refine lv_iload_n hx hb dX6_itemOf_2 rfl (lv_at hl 2 rfl) ?_
  refine lv_iconst (v := (4 : Int32)) hx hb dX6_itemOf_3 (by decide) ?_
  refine lv_icmp_ge (tgt := 28) hx hb dX6_itemOf_4 (by decide) (fun hc => ?_) (fun hc => ?_)
  · have hf := (if_pos hc).symm.trans hf
    refine lv_iconst (v := (-1 : Int32)) hx hb dX6_itemOf_28 (by decide) ?_
    clear hk2; cases hf
    exact retI C hw dX6_itemOf_29 rfl
  · have hf := (if_neg hc).symm.trans hf
    refine va_gets (v := .ref b_plT) hx hb (hX _ hs_plT).1 hw.2.2 hown (hts _ lk_X6_itemOf_0) (fun _ h9 => h9) dX6_itemOf_7 ?_
    refine lv_iload_n hx hb dX6_itemOf_10 rfl (lv_at hl 0 rfl) ?_
    refine lv_iconst (v := (4 : Int32)) hx hb dX6_itemOf_11 (by decide) ?_
    refine lv_imul hx hb dX6_itemOf_12 ?_
    refine lv_iload_n hx hb dX6_itemOf_13 rfl (lv_at hl 2 rfl) ?_
    refine lv_iadd hx hb dX6_itemOf_14 ?_
    obtain ⟨i_1, e_i_1, hf⟩ := bnd_some hf
    refine lv_nmi e_i_1 ?_
    obtain ⟨hc_2, hf⟩ := gd_some hf
    refine sx_cld hx hb (hX _ hs_plT).2.1 (hX _ hs_plT).2.2 hw.2.2 (inB_in hc_2) dX6_itemOf_15 ?_
    refine lv_iload_n hx hb dX6_itemOf_16 rfl (lv_at hl 1 rfl) ?_
    refine lv_icmp_ne (tgt := 22) hx hb dX6_itemOf_17 (by decide) (fun hc => ?_) (fun hc => ?_)
    · have hf := (if_neg hc).symm.trans hf
      obtain ⟨v2_3, e_v2_3, hf⟩ := bnd_some hf
      refine lv_iinc (v := v2_3) (lv' := [(2, .int v2_3), (0, .int v0), (1, .int v1)]) hx hb dX6_itemOf_22 hl (k := 2) rfl (by rw [e_v2_3]; rfl) (by decide) rfl (fun ls hl => ?_)
      refine lv_goto (tgt := 2) hx hb dX6_itemOf_25 (by decide) ?_
      exact hk2 v0 v1 v2_3 _ _ _ hf hw (lv_sub hl [1, 2, 0] rfl)
    · have hf := (if_pos hc).symm.trans hf
      refine lv_iload_n hx hb dX6_itemOf_20 rfl (lv_at hl 2 rfl) ?_
      clear hk2; cases hf
      exact retI C hw dX6_itemOf_21 rfl
theorem qf_X6_itemOf_2 {p : Program} {l : Launch} {e : Env} {s : State} {m : MethodId} {args : Array Value} {below : List Frame} {meth : Method} {c : Code} {sx : List sx_T} {D : va_G} {cI cZ cO : ClassId} {A : Nat → Prop} (C : Cx p s m args meth c RX6 wsX6_itemOf cX6_itemOf 3 (some .int)) (K : Kx sx D (tyL cI cZ cO) A s) (b_plT : Nat) (plT : Nat → Int32) (r0 : Int32) (hs_plT : (("GloveHouses$PeaceReader", "LETTERS", "[C", b_plT, .char, 12, plT) : sx_T) ∈ sx)   (n : Nat) : ∀ (v0 : Int32) (v1 : Int32) (v2 : Int32) (H : Heap) (locs : List Loc) (ls : Array Slot), f_X6_itemOf_2 plT  n v0 v1 v2 = some r0 → Wo D A s [] H locs → lv_has ls 3 [(0, .int v0), (1, .int v1), (2, .int v2)] → W p l e rm_X6_itemOf s m args below meth c H locs 0 0 (MQ below (QcI D A r0 []) args s 0 0 A) (F0 m 2 ls []) := by
  induction n with
  | zero =>
    intro v0 v1 v2 H locs ls hf
    have h9 : (none : Option (Int32)) = some r0 := hf
    cases h9
  | succ n ih =>
    intro v0 v1 v2 H locs ls hf hw hl
    exact q_X6_itemOf_2 C K b_plT plT r0 hs_plT  (f_X6_itemOf_2 plT  n) ih v0 v1 v2 hf hw hl
set_option maxHeartbeats 4000000 in
set_option maxRecDepth 100000 in
theorem q_X6_itemOf_0 {p : Program} {l : Launch} {e : Env} {s : State} {m : MethodId} {args : Array Value} {below : List Frame} {meth : Method} {c : Code} {sx : List sx_T} {D : va_G} {cI cZ cO : ClassId} {A : Nat → Prop} (C : Cx p s m args meth c RX6 wsX6_itemOf cX6_itemOf 3 (some .int)) (K : Kx sx D (tyL cI cZ cO) A s) (b_plT : Nat) (plT : Nat → Int32) (r0 : Int32) (hs_plT : (("GloveHouses$PeaceReader", "LETTERS", "[C", b_plT, .char, 12, plT) : sx_T) ∈ sx)   (v0 : Int32) (v1 : Int32) {H : Heap} {locs : List Loc} {ls : Array Slot} (hf : b_X6_itemOf_0 plT  v0 v1 = some r0) (hw : Wo D A s [] H locs) (hl : lv_has ls 3 [(0, .int v0), (1, .int v1)]) : W p l e rm_X6_itemOf s m args below meth c H locs 0 0 (MQ below (QcI D A r0 []) args s 0 0 A) (F0 m 0 ls []) := by
  obtain ⟨hx, hb, hml, hown, hts, hr, hlk⟩ := id C
  obtain ⟨hK, hX, hA⟩ := id K
  unfold b_X6_itemOf_0 at hf
  refine lv_iconst (v := (0 : Int32)) hx hb dX6_itemOf_0 (by decide) ?_
  refine lv_istore_n (lv' := [(2, .int (0 : Int32)), (0, .int v0), (1, .int v1)]) hx hb dX6_itemOf_1 rfl hl (by decide) rfl (fun ls hl => ?_)
  exact qf_X6_itemOf_2 C K b_plT plT r0 hs_plT  fu v0 v1 (0 : Int32) _ _ _ hf hw (lv_sub hl [1, 2, 0] rfl)
set_option maxHeartbeats 4000000 in
set_option maxRecDepth 100000 in
theorem k_X6_itemOf {l : Launch} {sx : List sx_T} {D : va_G} {cI cZ cO : ClassId} (b_plT : Nat) (plT : Nat → Int32) (r0 : Int32) (p1 : Int32) (p2 : Int32) (hs_plT : (("GloveHouses$PeaceReader", "LETTERS", "[C", b_plT, .char, 12, plT) : sx_T) ∈ sx) (hF : f_X6_itemOf plT p1 p2 = some r0) : CtI l yX6_itemOf wsX6_itemOf rm_X6_itemOf sx D (tyL cI cZ cO) [.int p1, .int p2] [] r0 [] := by
  refine ctI_of (cc := cX6_itemOf) (ret := (some .int)) (maxL := 3) (by decide) rfl (Nat.le_of_ble_eq_true rfl) ?_
  intro p e s m below meth c A ls C K hw hl
  exact q_X6_itemOf_0 C K b_plT plT r0 hs_plT p1 p2 hF hw (lv_sub hl [0, 1] rfl)
abbrev rm_X6_readsValue : Room := { frames := 2, cells := 0, slots := 0, locals := 43 }
theorem in_X6_readsValue_X6 : ∀ w ∈ u_ws RX6 TX6 4, w ∈ wsX6_readsValue := fun w h => List.mem_cons_of_mem _ (bi_wsX60 w h)
theorem in_X6_readsValue_X10 : ∀ w ∈ u_ws RX10 TX10 3, w ∈ wsX6_readsValue := fun w h => List.mem_cons_of_mem _ (bi_wsX100 w h)
theorem lk_X6_readsValue_0 : Cond.fieldLink RX6 22 "GloveHouses$PeaceReader" "tape" "LGloveHouses$Tape;" ∈ wsX6_readsValue := List.mem_cons_of_mem _ (bi_wsL_law0_r4 _ (List.mem_of_getElem? (i := 5) rfl))
theorem lk_X6_readsValue_1 : Cond.fieldLink RX6 101 "GloveHouses$PeaceReader" "MOST" "[I" ∈ wsX6_readsValue := List.mem_cons_of_mem _ (bi_wsL_law0_r11 _ (List.mem_of_getElem? (i := 8) rfl))
theorem lk_X6_readsValue_2 : Cond.fieldLink RX6 18 "GloveHouses$PeaceReader" "values" "[I" ∈ wsX6_readsValue := List.mem_cons_of_mem _ (bi_wsL_law0_r4 _ (List.mem_of_getElem? (i := 4) rfl))
theorem lk_X6_readsValue_3 : Cond.fieldLink RX6 26 "GloveHouses$Tape" "at" "I" ∈ wsX6_readsValue := List.mem_cons_of_mem _ (bi_wsL_law0_r9 _ (List.mem_of_getElem? (i := 17) rfl))
set_option maxHeartbeats 4000000 in
set_option maxRecDepth 100000 in
theorem q_X6_readsValue_0 {p : Program} {l : Launch} {e : Env} {s : State} {m : MethodId} {args : Array Value} {below : List Frame} {meth : Method} {c : Code} {sx : List sx_T} {D : va_G} {cI cZ cO : ClassId} {A : Nat → Prop} (C : Cx p s m args meth c RX6 wsX6_readsValue cX6_readsValue 4 (some .boolean)) (K : Kx sx D (tyL cI cZ cO) A s) (a_tape : Nat) (a_tape_bytes : Nat) (a_pr : Nat) (a_read : Nat) (a_pr_values : Nat) (b_pmT : Nat) (pmT : Nat → Int32) (tape_length : Int32) (tape_bytes : Nat → Int32) (pr_ruled : Int32) (r0 : Int32) (o_tape_at : Int32) (o_pr_values : Nat → Int32) (hs_pmT : (("GloveHouses$PeaceReader", "MOST", "[I", b_pmT, .int, 12, pmT) : sx_T) ∈ sx)   (tape_at : Int32) (pr_values : Nat → Int32) (v1 : Int32) (v2 : Int32) {H : Heap} {locs : List Loc} {ls : Array Slot} (hf : b_X6_readsValue_0 tape_length tape_bytes pmT  tape_at pr_values v1 v2 = some (r0, o_tape_at, o_pr_values)) (hw : Wo D A s [(oX10 a_tape (.ref a_tape_bytes) (.int tape_length) (.int tape_at)), (a_tape_bytes, .inl (cI, 240, .inl tape_bytes)), (oX6 a_pr (.ref a_read) (.ref a_tape) (.ref a_pr_values) (.int pr_ruled)), (a_pr_values, .inl (cI, 4, .inl pr_values))] H locs) (hl : lv_has ls 4 [(0, .ref a_pr), (1, .int v1), (2, .int v2)]) : W p l e rm_X6_readsValue s m args below meth c H locs 0 0 (MQ below (QcI D A r0 [(oX10 a_tape (.ref a_tape_bytes) (.int tape_length) (.int o_tape_at)), (a_tape_bytes, .inl (cI, 240, .inl tape_bytes)), (oX6 a_pr (.ref a_read) (.ref a_tape) (.ref a_pr_values) (.int pr_ruled)), (a_pr_values, .inl (cI, 4, .inl o_pr_values))]) args s 0 0 A) (F0 m 0 ls []) := by
  obtain ⟨hx, hb, hml, hown, hts, hr, hlk⟩ := id C
  obtain ⟨hK, hX, hA⟩ := id K
  unfold b_X6_readsValue_0 at hf
  refine lv_aload_n hx hb dX6_readsValue_0 rfl (lv_at hl 0 rfl) ?_
  refine va_get (ci := 6) (v := .ref a_tape) (C := RX6) (T := TX6) (N := 4) hx hb hts in_X6_readsValue_X6 hown hK hw.1 2 rfl rfl 1 (by decide) (hts _ lk_X6_readsValue_0) (fun _ h9 => h9) rfl dX6_readsValue_1 ?_
  refine lv_iconst (v := (2 : Int32)) hx hb dX6_readsValue_4 (by decide) ?_
  obtain ⟨r_1, tape_at_2, hg_3, hf⟩ := ob2_some hf
  refine cl_ViA (As := [.int (2 : Int32)]) (rest := []) C K hw (k_X10_number a_tape a_tape_bytes tape_length tape_bytes r_1 tape_at_2 tape_at (2 : Int32) hg_3) [0, 1] rfl (by decide) rfl rfl (ci := 10) (j := 0) rfl rfl (cwV 1 hts gX6_readsValue_X10_number rfl rfl rfl (by decide +kernel) ⟨Nat.le_of_ble_eq_true rfl, Nat.le_of_ble_eq_true rfl⟩) rfl hl rfl (Nat.le_of_ble_eq_true rfl) dX6_readsValue_5 ⟨Nat.zero_le _, Nat.zero_le _⟩ (fun H locs hw => ?_)
  have hw : Wo D A s [(oX10 a_tape (.ref a_tape_bytes) (.int tape_length) (.int tape_at_2)), (a_tape_bytes, .inl (cI, 240, .inl tape_bytes)), (oX6 a_pr (.ref a_read) (.ref a_tape) (.ref a_pr_values) (.int pr_ruled)), (a_pr_values, .inl (cI, 4, .inl pr_values))] H locs := hw
  refine lv_istore_n (lv' := [(3, .int r_1), (0, .ref a_pr), (1, .int v1), (2, .int v2)]) hx hb dX6_readsValue_8 rfl hl (by decide) rfl (fun ls hl => ?_)
  refine lv_iload_n hx hb dX6_readsValue_9 rfl (lv_at hl 0 rfl) ?_
  refine lv_iconst (v := (-1 : Int32)) hx hb dX6_readsValue_10 (by decide) ?_
  refine lv_icmp_ne (tgt := 16) hx hb dX6_readsValue_11 (by decide) (fun hc => ?_) (fun hc => ?_)
  · have hf := (if_neg hc).symm.trans hf
    refine lv_iload_n hx hb dX6_readsValue_16 rfl (lv_at hl 0 rfl) ?_
    refine va_gets (v := .ref b_pmT) hx hb (hX _ hs_pmT).1 hw.2.2 hown (hts _ lk_X6_readsValue_1) (fun _ h9 => h9) dX6_readsValue_17 ?_
    refine lv_iload_n hx hb dX6_readsValue_20 rfl (lv_at hl 2 rfl) ?_
    refine lv_iconst (v := (4 : Int32)) hx hb dX6_readsValue_21 (by decide) ?_
    refine lv_imul hx hb dX6_readsValue_22 ?_
    refine lv_iload_n hx hb dX6_readsValue_23 rfl (lv_at hl 3 rfl) ?_
    refine lv_iadd hx hb dX6_readsValue_24 ?_
    obtain ⟨i_4, e_i_4, hf⟩ := bnd_some hf
    refine lv_nmi e_i_4 ?_
    obtain ⟨hc_5, hf⟩ := gd_some hf
    refine sx_ild hx hb (hX _ hs_pmT).2.1 (hX _ hs_pmT).2.2 hw.2.2 (inB_in hc_5) dX6_readsValue_25 ?_
    refine lv_icmp_le (tgt := 44) hx hb dX6_readsValue_26 (by decide) (fun hc => ?_) (fun hc => ?_)
    · have hf := (if_pos hc).symm.trans hf
      refine lv_aload_n hx hb dX6_readsValue_44 rfl (lv_at hl 1 rfl) ?_
      refine va_get (ci := 6) (v := .ref a_pr_values) (C := RX6) (T := TX6) (N := 4) hx hb hts in_X6_readsValue_X6 hown hK hw.1 2 rfl rfl 2 (by decide) (hts _ lk_X6_readsValue_2) (fun _ h9 => h9) rfl dX6_readsValue_45 ?_
      refine lv_iload_n hx hb dX6_readsValue_48 rfl (lv_at hl 3 rfl) ?_
      refine lv_iload_n hx hb dX6_readsValue_49 rfl (lv_at hl 0 rfl) ?_
      obtain ⟨hc_6, hf⟩ := gd_some hf
      obtain ⟨pr_values_7, e_pr_values_7, hf⟩ := bnd_some hf
      refine va_iast hx hb hK hw.1 hw.2.1 hw.2.2 3 0 rfl rfl (inB_in hc_6) dX6_readsValue_50 (fun H locs hP hD hS => ?_)
      have hw : Wo D A s [(oX10 a_tape (.ref a_tape_bytes) (.int tape_length) (.int tape_at_2)), (a_tape_bytes, .inl (cI, 240, .inl tape_bytes)), (oX6 a_pr (.ref a_read) (.ref a_tape) (.ref a_pr_values) (.int pr_ruled)), (a_pr_values, .inl (cI, 4, .inl pr_values_7))] H locs := by rw [e_pr_values_7]; exact ⟨hP, hD, hS⟩
      refine lv_iconst (v := (1 : Int32)) hx hb dX6_readsValue_51 (by decide) ?_
      cases hf
      exact retZ C hw dX6_readsValue_52 (by decide) rfl
    · have hf := (if_neg hc).symm.trans hf
      refine lv_aload_n hx hb dX6_readsValue_29 rfl (lv_at hl 1 rfl) ?_
      refine va_get (ci := 6) (v := .ref a_tape) (C := RX6) (T := TX6) (N := 4) hx hb hts in_X6_readsValue_X6 hown hK hw.1 2 rfl rfl 1 (by decide) (hts _ lk_X6_readsValue_0) (fun _ h9 => h9) rfl dX6_readsValue_30 ?_
      refine lv_dup hx hb dX6_readsValue_33 rfl ?_
      refine va_get (ci := 10) (v := .int tape_at_2) (C := RX10) (T := TX10) (N := 3) hx hb hts in_X6_readsValue_X10 hown hK hw.1 0 rfl rfl 2 (by decide) (hts _ lk_X6_readsValue_3) (fun _ h9 => h9) rfl dX6_readsValue_34 ?_
      refine lv_iconst (v := (1 : Int32)) hx hb dX6_readsValue_37 (by decide) ?_
      refine lv_isub hx hb dX6_readsValue_38 ?_
      obtain ⟨at_8, e_at_8, hf⟩ := bnd_some hf
      refine lv_nmi e_at_8 ?_
      refine va_put (ci := 10) (v := .int at_8) (ty := .int) (C := RX10) (T := TX10) (N := 3) hx hb hts in_X6_readsValue_X10 tyX10 tyX10_ok nmX10 hown hK hw.1 hw.2.1 hw.2.2 0 rfl rfl 2 (by decide) (hts _ lk_X6_readsValue_3) (fun _ h9 => h9) rfl (by decide +kernel) rfl rfl (Nat.le_of_ble_eq_true rfl) dX6_readsValue_39 (fun H locs hP hD hS => ?_)
      have hw : Wo D A s [(oX10 a_tape (.ref a_tape_bytes) (.int tape_length) (.int at_8)), (a_tape_bytes, .inl (cI, 240, .inl tape_bytes)), (oX6 a_pr (.ref a_read) (.ref a_tape) (.ref a_pr_values) (.int pr_ruled)), (a_pr_values, .inl (cI, 4, .inl pr_values))] H locs := ⟨hP, hD, hS⟩
      refine lv_iconst (v := (0 : Int32)) hx hb dX6_readsValue_42 (by decide) ?_
      cases hf
      exact retZ C hw dX6_readsValue_43 (by decide) rfl
  · have hf := (if_pos hc).symm.trans hf
    refine lv_iconst (v := (0 : Int32)) hx hb dX6_readsValue_14 (by decide) ?_
    cases hf
    exact retZ C hw dX6_readsValue_15 (by decide) rfl
set_option maxHeartbeats 4000000 in
set_option maxRecDepth 100000 in
theorem k_X6_readsValue {l : Launch} {sx : List sx_T} {D : va_G} {cI cZ cO : ClassId} (a_tape : Nat) (a_tape_bytes : Nat) (a_pr : Nat) (a_read : Nat) (a_pr_values : Nat) (b_pmT : Nat) (pmT : Nat → Int32) (tape_length : Int32) (tape_bytes : Nat → Int32) (pr_ruled : Int32) (r0 : Int32) (o_tape_at : Int32) (o_pr_values : Nat → Int32) (tape_at : Int32) (pr_values : Nat → Int32) (p1 : Int32) (p2 : Int32) (hs_pmT : (("GloveHouses$PeaceReader", "MOST", "[I", b_pmT, .int, 12, pmT) : sx_T) ∈ sx) (hF : f_X6_readsValue tape_length tape_bytes pmT tape_at pr_values p1 p2 = some (r0, o_tape_at, o_pr_values)) : CtI l yX6_readsValue wsX6_readsValue rm_X6_readsValue sx D (tyL cI cZ cO) [.ref a_pr, .int p1, .int p2] [(oX10 a_tape (.ref a_tape_bytes) (.int tape_length) (.int tape_at)), (a_tape_bytes, .inl (cI, 240, .inl tape_bytes)), (oX6 a_pr (.ref a_read) (.ref a_tape) (.ref a_pr_values) (.int pr_ruled)), (a_pr_values, .inl (cI, 4, .inl pr_values))] r0 [(oX10 a_tape (.ref a_tape_bytes) (.int tape_length) (.int o_tape_at)), (a_tape_bytes, .inl (cI, 240, .inl tape_bytes)), (oX6 a_pr (.ref a_read) (.ref a_tape) (.ref a_pr_values) (.int pr_ruled)), (a_pr_values, .inl (cI, 4, .inl o_pr_values))] := by
  refine ctI_of (cc := cX6_readsValue) (ret := (some .boolean)) (maxL := 4) (by decide) rfl (Nat.le_of_ble_eq_true rfl) ?_
  intro p e s m below meth c A ls C K hw hl
  exact q_X6_readsValue_0 C K a_tape a_tape_bytes a_pr a_read a_pr_values b_pmT pmT tape_length tape_bytes pr_ruled r0 o_tape_at o_pr_values hs_pmT tape_at pr_values p1 p2 hF hw (lv_sub hl [0, 1, 2] rfl)
abbrev rm_X6_readsItems : Room := { frames := 3, cells := 0, slots := 0, locals := 66 }
theorem in_X6_readsItems_X6 : ∀ w ∈ u_ws RX6 TX6 4, w ∈ wsX6_readsItems := fun w h => List.mem_cons_of_mem _ (bi_wsX60 w h)
theorem in_X6_readsItems_X10 : ∀ w ∈ u_ws RX10 TX10 3, w ∈ wsX6_readsItems := fun w h => List.mem_cons_of_mem _ (bi_wsX100 w h)
theorem lk_X6_readsItems_0 : Cond.fieldLink RX6 42 "GloveHouses$PeaceReader" "USUAL" "[I" ∈ wsX6_readsItems := List.mem_cons_of_mem _ (bi_wsL_law0_r9 _ (List.mem_of_getElem? (i := 21) rfl))
theorem lk_X6_readsItems_1 : Cond.fieldLink RX6 18 "GloveHouses$PeaceReader" "values" "[I" ∈ wsX6_readsItems := List.mem_cons_of_mem _ (bi_wsL_law0_r4 _ (List.mem_of_getElem? (i := 4) rfl))
theorem lk_X6_readsItems_2 : Cond.methodLink RX6 80 arraycopyName ∈ wsX6_readsItems := List.mem_cons_of_mem _ (bi_wsL_law0_r10 _ (List.mem_of_getElem? (i := 20) rfl))
theorem lk_X6_readsItems_3 : Cond.native arraycopyName ∈ wsX6_readsItems := List.mem_cons_of_mem _ (bi_wsL_law0_r10 _ (List.mem_of_getElem? (i := 21) rfl))
theorem lk_X6_readsItems_4 : Cond.static arraycopyName ∈ wsX6_readsItems := List.mem_cons_of_mem _ (bi_wsL_law0_r10 _ (List.mem_of_getElem? (i := 22) rfl))
theorem lk_X6_readsItems_5 : Cond.initialized "java/lang/System" ∈ wsX6_readsItems := List.mem_cons_of_mem _ (bi_wsL_law0_r10 _ (List.mem_of_getElem? (i := 23) rfl))
theorem lk_X6_readsItems_6 : Cond.fieldLink RX6 22 "GloveHouses$PeaceReader" "tape" "LGloveHouses$Tape;" ∈ wsX6_readsItems := List.mem_cons_of_mem _ (bi_wsL_law0_r4 _ (List.mem_of_getElem? (i := 5) rfl))
theorem lk_X6_readsItems_7 : Cond.initialized RX6 ∈ wsX6_readsItems := List.mem_cons_of_mem _ (bi_wsL_law0_r1 _ (List.mem_of_getElem? (i := 20) rfl))
theorem lk_X6_readsItems_8 : Cond.methodLink RX6 86 yX6_itemOf ∈ wsX6_readsItems := List.mem_cons_of_mem _ (bi_wsL_law0_r11 _ (List.mem_of_getElem? (i := 0) rfl))
theorem lk_X6_readsItems_9 : Cond.static yX6_itemOf ∈ wsX6_readsItems := List.mem_cons_of_mem _ (bi_wsL_law0_r11 _ (List.mem_of_getElem? (i := 1) rfl))
theorem lk_X6_readsItems_10 : Cond.fieldLink RX6 26 "GloveHouses$Tape" "at" "I" ∈ wsX6_readsItems := List.mem_cons_of_mem _ (bi_wsL_law0_r9 _ (List.mem_of_getElem? (i := 17) rfl))
set_option maxHeartbeats 4000000 in
set_option maxRecDepth 100000 in
theorem q_X6_readsItems_19 {p : Program} {l : Launch} {e : Env} {s : State} {m : MethodId} {args : Array Value} {below : List Frame} {meth : Method} {c : Code} {sx : List sx_T} {D : va_G} {cI cZ cO : ClassId} {A : Nat → Prop} (C : Cx p s m args meth c RX6 wsX6_readsItems cX6_readsItems 6 (some .boolean)) (K : Kx sx D (tyL cI cZ cO) A s) (a_tape : Nat) (a_tape_bytes : Nat) (a_pr : Nat) (a_read : Nat) (a_pr_values : Nat) (b_plT : Nat) (plT : Nat → Int32) (b_pmT : Nat) (pmT : Nat → Int32) (b_puT : Nat) (puT : Nat → Int32) (tape_length : Int32) (tape_bytes : Nat → Int32) (pr_ruled : Int32) (r0 : Int32) (o_tape_at : Int32) (o_pr_values : Nat → Int32) (hs_plT : (("GloveHouses$PeaceReader", "LETTERS", "[C", b_plT, .char, 12, plT) : sx_T) ∈ sx) (hs_pmT : (("GloveHouses$PeaceReader", "MOST", "[I", b_pmT, .int, 12, pmT) : sx_T) ∈ sx) (hs_puT : (("GloveHouses$PeaceReader", "USUAL", "[I", b_puT, .int, 12, puT) : sx_T) ∈ sx)  (k19 : Int32 → (Nat → Int32) → Int32 → Int32 → Int32 → Option (Int32 × Int32 × (Nat → Int32))) (hk19 : ∀ (tape_at : Int32) (pr_values : Nat → Int32) (v1 : Int32) (v2 : Int32) (v3 : Int32) (H : Heap) (locs : List Loc) (ls : Array Slot), k19 tape_at pr_values v1 v2 v3 = some (r0, o_tape_at, o_pr_values) → Wo D A s [(oX10 a_tape (.ref a_tape_bytes) (.int tape_length) (.int tape_at)), (a_tape_bytes, .inl (cI, 240, .inl tape_bytes)), (oX6 a_pr (.ref a_read) (.ref a_tape) (.ref a_pr_values) (.int pr_ruled)), (a_pr_values, .inl (cI, 4, .inl pr_values))] H locs → lv_has ls 6 [(0, .ref a_pr), (1, .int v1), (2, .int v2), (3, .int v3)] → W p l e rm_X6_readsItems s m args below meth c H locs 0 0 (MQ below (QcI D A r0 [(oX10 a_tape (.ref a_tape_bytes) (.int tape_length) (.int o_tape_at)), (a_tape_bytes, .inl (cI, 240, .inl tape_bytes)), (oX6 a_pr (.ref a_read) (.ref a_tape) (.ref a_pr_values) (.int pr_ruled)), (a_pr_values, .inl (cI, 4, .inl o_pr_values))]) args s 0 0 A) (F0 m 19 ls [])) (tape_at : Int32) (pr_values : Nat → Int32) (v1 : Int32) (v2 : Int32) (v3 : Int32) {H : Heap} {locs : List Loc} {ls : Array Slot} (hf : b_X6_readsItems_19 tape_length tape_bytes plT pmT puT k19 tape_at pr_values v1 v2 v3 = some (r0, o_tape_at, o_pr_values)) (hw : Wo D A s [(oX10 a_tape (.ref a_tape_bytes) (.int tape_length) (.int tape_at)), (a_tape_bytes, .inl (cI, 240, .inl tape_bytes)), (oX6 a_pr (.ref a_read) (.ref a_tape) (.ref a_pr_values) (.int pr_ruled)), (a_pr_values, .inl (cI, 4, .inl pr_values))] H locs) (hl : lv_has ls 6 [(0, .ref a_pr), (1, .int v1), (2, .int v2), (3, .int v3)]) : W p l e rm_X6_readsItems s m args below meth c H locs 0 0 (MQ below (QcI D A r0 [(oX10 a_tape (.ref a_tape_bytes) (.int tape_length) (.int o_tape_at)), (a_tape_bytes, .inl (cI, 240, .inl tape_bytes)), (oX6 a_pr (.ref a_read) (.ref a_tape) (.ref a_pr_values) (.int pr_ruled)), (a_pr_values, .inl (cI, 4, .inl o_pr_values))]) args s 0 0 A) (F0 m 19 ls []) := by
  obtain ⟨hx, hb, hml, hown, hts, hr, hlk⟩ := id C
  obtain ⟨hK, hX, hA⟩ := id K
  unfold b_X6_readsItems_19 at hf
  refine lv_iload_n hx hb dX6_readsItems_19 rfl (lv_at hl 3 rfl) ?_
  refine lv_iconst (v := (4 : Int32)) hx hb dX6_readsItems_20 (by decide) ?_
  refine lv_icmp_gt (tgt := 112) hx hb dX6_readsItems_21 (by decide) (fun hc => ?_) (fun hc => ?_)
  · have hf := (if_pos hc).symm.trans hf
    refine lv_iconst (v := (0 : Int32)) hx hb dX6_readsItems_112 (by decide) ?_
    clear hk19; cases hf
    exact retZ C hw dX6_readsItems_113 (by decide) rfl
  · have hf := (if_neg hc).symm.trans hf
    refine lv_aload_n hx hb dX6_readsItems_24 rfl (lv_at hl 0 rfl) ?_
    refine va_get (ci := 6) (v := .ref a_tape) (C := RX6) (T := TX6) (N := 4) hx hb hts in_X6_readsItems_X6 hown hK hw.1 2 rfl rfl 1 (by decide) (hts _ lk_X6_readsItems_6) (fun _ h9 => h9) rfl dX6_readsItems_25 ?_
    obtain ⟨r_1, tape_at_2, hg_3, hf⟩ := ob2_some hf
    refine cl_ViA (As := []) (rest := []) C K hw (k_X10_sign a_tape a_tape_bytes tape_length tape_bytes r_1 tape_at_2 tape_at hg_3) [0, 1] rfl (by decide) rfl rfl (ci := 10) (j := 0) rfl rfl (cwV 0 hts gX6_readsItems_X10_sign rfl rfl rfl (by decide +kernel) ⟨Nat.le_of_ble_eq_true rfl, Nat.le_of_ble_eq_true rfl⟩) rfl hl rfl (Nat.le_of_ble_eq_true rfl) dX6_readsItems_28 ⟨Nat.zero_le _, Nat.zero_le _⟩ (fun H locs hw => ?_)
    have hw : Wo D A s [(oX10 a_tape (.ref a_tape_bytes) (.int tape_length) (.int tape_at_2)), (a_tape_bytes, .inl (cI, 240, .inl tape_bytes)), (oX6 a_pr (.ref a_read) (.ref a_tape) (.ref a_pr_values) (.int pr_ruled)), (a_pr_values, .inl (cI, 4, .inl pr_values))] H locs := hw
    refine lv_istore (lv' := [(4, .int r_1), (0, .ref a_pr), (1, .int v1), (2, .int v2), (3, .int v3)]) hx hb dX6_readsItems_31 hl (by decide) rfl (fun ls hl => ?_)
    refine lv_iload hx hb dX6_readsItems_33 (lv_at hl 0 rfl) ?_
    refine lv_bipush (v := (59 : Int32)) hx hb dX6_readsItems_35 (by decide) ?_
    refine lv_icmp_eq (tgt := 46) hx hb dX6_readsItems_37 (by decide) (fun hc => ?_) (fun hc => ?_)
    · have hf := (if_pos hc).symm.trans hf
      refine lv_iconst (v := (1 : Int32)) hx hb dX6_readsItems_46 (by decide) ?_
      clear hk19; cases hf
      exact retZ C hw dX6_readsItems_47 (by decide) rfl
    · have hf := (if_neg hc).symm.trans hf
      refine lv_iload hx hb dX6_readsItems_40 (lv_at hl 0 rfl) ?_
      refine lv_iconst (v := (-1 : Int32)) hx hb dX6_readsItems_42 (by decide) ?_
      refine lv_icmp_ne (tgt := 48) hx hb dX6_readsItems_43 (by decide) (fun hc => ?_) (fun hc => ?_)
      · have hf := (if_neg hc).symm.trans hf
        refine lv_iload_n hx hb dX6_readsItems_48 rfl (lv_at hl 2 rfl) ?_
        refine lv_iload hx hb dX6_readsItems_49 (lv_at hl 0 rfl) ?_
        obtain ⟨r_4, hg_5, hf⟩ := ob1_some hf
        refine cl_SiA (As := [.int v1, .int r_1]) (rest := []) C K hw (k_X6_itemOf b_plT plT r_4 v1 r_1 hs_plT hg_5) [] rfl (by decide) rfl rfl ⟨callB_of 2 hts (fun w h => gX6_readsItems_X6_itemOf w (List.mem_append_right _ h)) rfl rfl rfl (hts _ lk_X6_readsItems_7) (hts _ lk_X6_readsItems_8) (by decide +kernel) ⟨Nat.le_of_ble_eq_true rfl, Nat.le_of_ble_eq_true rfl⟩, hts _ lk_X6_readsItems_9⟩ rfl hl rfl (Nat.le_of_ble_eq_true rfl) dX6_readsItems_51 ⟨Nat.zero_le _, Nat.zero_le _⟩ (fun H locs hw => ?_)
        have hw : Wo D A s [(oX10 a_tape (.ref a_tape_bytes) (.int tape_length) (.int tape_at_2)), (a_tape_bytes, .inl (cI, 240, .inl tape_bytes)), (oX6 a_pr (.ref a_read) (.ref a_tape) (.ref a_pr_values) (.int pr_ruled)), (a_pr_values, .inl (cI, 4, .inl pr_values))] H locs := hw
        refine lv_istore (lv' := [(5, .int r_4), (4, .int r_1), (0, .ref a_pr), (1, .int v1), (2, .int v2), (3, .int v3)]) hx hb dX6_readsItems_54 hl (by decide) rfl (fun ls hl => ?_)
        refine lv_iload hx hb dX6_readsItems_56 (lv_at hl 0 rfl) ?_
        refine lv_iconst (v := (-1 : Int32)) hx hb dX6_readsItems_58 (by decide) ?_
        refine lv_icmp_eq (tgt := 72) hx hb dX6_readsItems_59 (by decide) (fun hc => ?_) (fun hc => ?_)
        · have hf := (if_pos hc).symm.trans hf
          refine lv_iconst (v := (0 : Int32)) hx hb dX6_readsItems_72 (by decide) ?_
          clear hk19; cases hf
          exact retZ C hw dX6_readsItems_73 (by decide) rfl
        · have hf := (if_neg hc).symm.trans hf
          refine lv_iload_n hx hb dX6_readsItems_62 rfl (lv_at hl 4 rfl) ?_
          refine lv_iload hx hb dX6_readsItems_63 (lv_at hl 0 rfl) ?_
          refine lv_ishr hx hb dX6_readsItems_65 ?_
          refine lv_iconst (v := (1 : Int32)) hx hb dX6_readsItems_66 (by decide) ?_
          refine lv_iand hx hb dX6_readsItems_67 ?_
          refine lv_iconst (v := (1 : Int32)) hx hb dX6_readsItems_68 (by decide) ?_
          refine lv_icmp_ne (tgt := 74) hx hb dX6_readsItems_69 (by decide) (fun hc => ?_) (fun hc => ?_)
          · have hf := (if_neg hc).symm.trans hf
            refine lv_iload_n hx hb dX6_readsItems_74 rfl (lv_at hl 4 rfl) ?_
            refine lv_iconst (v := (1 : Int32)) hx hb dX6_readsItems_75 (by decide) ?_
            refine lv_iload hx hb dX6_readsItems_76 (lv_at hl 0 rfl) ?_
            refine lv_ishl hx hb dX6_readsItems_78 ?_
            refine lv_ior hx hb dX6_readsItems_79 ?_
            obtain ⟨v2_6, e_v2_6, hf⟩ := bnd_some hf
            refine lv_nmi e_v2_6 ?_
            refine lv_istore_n (lv' := [(2, .int v2_6), (5, .int r_4), (4, .int r_1), (0, .ref a_pr), (1, .int v1), (3, .int v3)]) hx hb dX6_readsItems_80 rfl hl (by decide) rfl (fun ls hl => ?_)
            refine lv_aload_n hx hb dX6_readsItems_81 rfl (lv_at hl 3 rfl) ?_
            refine va_get (ci := 6) (v := .ref a_tape) (C := RX6) (T := TX6) (N := 4) hx hb hts in_X6_readsItems_X6 hown hK hw.1 2 rfl rfl 1 (by decide) (hts _ lk_X6_readsItems_6) (fun _ h9 => h9) rfl dX6_readsItems_82 ?_
            refine lv_dup hx hb dX6_readsItems_85 rfl ?_
            refine va_get (ci := 10) (v := .int tape_at_2) (C := RX10) (T := TX10) (N := 3) hx hb hts in_X6_readsItems_X10 hown hK hw.1 0 rfl rfl 2 (by decide) (hts _ lk_X6_readsItems_10) (fun _ h9 => h9) rfl dX6_readsItems_86 ?_
            refine lv_iconst (v := (1 : Int32)) hx hb dX6_readsItems_89 (by decide) ?_
            refine lv_iadd hx hb dX6_readsItems_90 ?_
            obtain ⟨at_7, e_at_7, hf⟩ := bnd_some hf
            refine lv_nmi e_at_7 ?_
            refine va_put (ci := 10) (v := .int at_7) (ty := .int) (C := RX10) (T := TX10) (N := 3) hx hb hts in_X6_readsItems_X10 tyX10 tyX10_ok nmX10 hown hK hw.1 hw.2.1 hw.2.2 0 rfl rfl 2 (by decide) (hts _ lk_X6_readsItems_10) (fun _ h9 => h9) rfl (by decide +kernel) rfl rfl (Nat.le_of_ble_eq_true rfl) dX6_readsItems_91 (fun H locs hP hD hS => ?_)
            have hw : Wo D A s [(oX10 a_tape (.ref a_tape_bytes) (.int tape_length) (.int at_7)), (a_tape_bytes, .inl (cI, 240, .inl tape_bytes)), (oX6 a_pr (.ref a_read) (.ref a_tape) (.ref a_pr_values) (.int pr_ruled)), (a_pr_values, .inl (cI, 4, .inl pr_values))] H locs := ⟨hP, hD, hS⟩
            refine lv_aload_n hx hb dX6_readsItems_94 rfl (lv_at hl 3 rfl) ?_
            refine lv_iload_n hx hb dX6_readsItems_95 rfl (lv_at hl 4 rfl) ?_
            refine lv_iload hx hb dX6_readsItems_96 (lv_at hl 1 rfl) ?_
            obtain ⟨r_8, tape_at_9, pr_values_10, hg_11, hf⟩ := ob3_some hf
            refine cl_ViA (As := [.int v1, .int r_4]) (rest := []) C K hw (k_X6_readsValue a_tape a_tape_bytes a_pr a_read a_pr_values b_pmT pmT tape_length tape_bytes pr_ruled r_8 tape_at_9 pr_values_10 at_7 pr_values v1 r_4 hs_pmT hg_11) [0, 1, 2, 3] rfl (by decide) rfl rfl (ci := 6) (j := 2) rfl rfl (cwV 2 hts gX6_readsItems_X6_readsValue rfl rfl rfl (by decide +kernel) ⟨Nat.le_of_ble_eq_true rfl, Nat.le_of_ble_eq_true rfl⟩) rfl hl rfl (Nat.le_of_ble_eq_true rfl) dX6_readsItems_98 ⟨Nat.zero_le _, Nat.zero_le _⟩ (fun H locs hw => ?_)
            have hw : Wo D A s [(oX10 a_tape (.ref a_tape_bytes) (.int tape_length) (.int tape_at_9)), (a_tape_bytes, .inl (cI, 240, .inl tape_bytes)), (oX6 a_pr (.ref a_read) (.ref a_tape) (.ref a_pr_values) (.int pr_ruled)), (a_pr_values, .inl (cI, 4, .inl pr_values_10))] H locs := hw
            refine lv_if_ne (tgt := 106) hx hb dX6_readsItems_101 (by decide) (fun hc => ?_) (fun hc => ?_)
            · have hf := (if_neg hc).symm.trans hf
              obtain ⟨v3_12, e_v3_12, hf⟩ := bnd_some hf
              refine lv_iinc (v := v3_12) (lv' := [(3, .int v3_12), (2, .int v2_6), (5, .int r_4), (4, .int r_1), (0, .ref a_pr), (1, .int v1)]) hx hb dX6_readsItems_106 hl (k := 5) rfl (by rw [e_v3_12]; rfl) (by decide) rfl (fun ls hl => ?_)
              refine lv_goto (tgt := 19) hx hb dX6_readsItems_109 (by decide) ?_
              exact hk19 tape_at_9 pr_values_10 v1 v2_6 v3_12 _ _ _ hf hw (lv_sub hl [4, 5, 1, 0] rfl)
            · have hf := (if_pos hc).symm.trans hf
              refine lv_iconst (v := (0 : Int32)) hx hb dX6_readsItems_104 (by decide) ?_
              clear hk19; cases hf
              exact retZ C hw dX6_readsItems_105 (by decide) rfl
          · have hf := (if_pos hc).symm.trans hf
            refine lv_iconst (v := (0 : Int32)) hx hb dX6_readsItems_72 (by decide) ?_
            clear hk19; cases hf
            exact retZ C hw dX6_readsItems_73 (by decide) rfl
      · have hf := (if_pos hc).symm.trans hf
        refine lv_iconst (v := (1 : Int32)) hx hb dX6_readsItems_46 (by decide) ?_
        clear hk19; cases hf
        exact retZ C hw dX6_readsItems_47 (by decide) rfl
theorem qf_X6_readsItems_19 {p : Program} {l : Launch} {e : Env} {s : State} {m : MethodId} {args : Array Value} {below : List Frame} {meth : Method} {c : Code} {sx : List sx_T} {D : va_G} {cI cZ cO : ClassId} {A : Nat → Prop} (C : Cx p s m args meth c RX6 wsX6_readsItems cX6_readsItems 6 (some .boolean)) (K : Kx sx D (tyL cI cZ cO) A s) (a_tape : Nat) (a_tape_bytes : Nat) (a_pr : Nat) (a_read : Nat) (a_pr_values : Nat) (b_plT : Nat) (plT : Nat → Int32) (b_pmT : Nat) (pmT : Nat → Int32) (b_puT : Nat) (puT : Nat → Int32) (tape_length : Int32) (tape_bytes : Nat → Int32) (pr_ruled : Int32) (r0 : Int32) (o_tape_at : Int32) (o_pr_values : Nat → Int32) (hs_plT : (("GloveHouses$PeaceReader", "LETTERS", "[C", b_plT, .char, 12, plT) : sx_T) ∈ sx) (hs_pmT : (("GloveHouses$PeaceReader", "MOST", "[I", b_pmT, .int, 12, pmT) : sx_T) ∈ sx) (hs_puT : (("GloveHouses$PeaceReader", "USUAL", "[I", b_puT, .int, 12, puT) : sx_T) ∈ sx)   (n : Nat) : ∀ (tape_at : Int32) (pr_values : Nat → Int32) (v1 : Int32) (v2 : Int32) (v3 : Int32) (H : Heap) (locs : List Loc) (ls : Array Slot), f_X6_readsItems_19 tape_length tape_bytes plT pmT puT  n tape_at pr_values v1 v2 v3 = some (r0, o_tape_at, o_pr_values) → Wo D A s [(oX10 a_tape (.ref a_tape_bytes) (.int tape_length) (.int tape_at)), (a_tape_bytes, .inl (cI, 240, .inl tape_bytes)), (oX6 a_pr (.ref a_read) (.ref a_tape) (.ref a_pr_values) (.int pr_ruled)), (a_pr_values, .inl (cI, 4, .inl pr_values))] H locs → lv_has ls 6 [(0, .ref a_pr), (1, .int v1), (2, .int v2), (3, .int v3)] → W p l e rm_X6_readsItems s m args below meth c H locs 0 0 (MQ below (QcI D A r0 [(oX10 a_tape (.ref a_tape_bytes) (.int tape_length) (.int o_tape_at)), (a_tape_bytes, .inl (cI, 240, .inl tape_bytes)), (oX6 a_pr (.ref a_read) (.ref a_tape) (.ref a_pr_values) (.int pr_ruled)), (a_pr_values, .inl (cI, 4, .inl o_pr_values))]) args s 0 0 A) (F0 m 19 ls []) := by
  induction n with
  | zero =>
    intro tape_at pr_values v1 v2 v3 H locs ls hf
    have h9 : (none : Option (Int32 × Int32 × (Nat → Int32))) = some (r0, o_tape_at, o_pr_values) := hf
    cases h9
  | succ n ih =>
    intro tape_at pr_values v1 v2 v3 H locs ls hf hw hl
    exact q_X6_readsItems_19 C K a_tape a_tape_bytes a_pr a_read a_pr_values b_plT plT b_pmT pmT b_puT puT tape_length tape_bytes pr_ruled r0 o_tape_at o_pr_values hs_plT hs_pmT hs_puT  (f_X6_readsItems_19 tape_length tape_bytes plT pmT puT  n) ih tape_at pr_values v1 v2 v3 hf hw hl
set_option maxHeartbeats 4000000 in
set_option maxRecDepth 100000 in
theorem q_X6_readsItems_0 {p : Program} {l : Launch} {e : Env} {s : State} {m : MethodId} {args : Array Value} {below : List Frame} {meth : Method} {c : Code} {sx : List sx_T} {D : va_G} {cI cZ cO : ClassId} {A : Nat → Prop} (C : Cx p s m args meth c RX6 wsX6_readsItems cX6_readsItems 6 (some .boolean)) (K : Kx sx D (tyL cI cZ cO) A s) (a_tape : Nat) (a_tape_bytes : Nat) (a_pr : Nat) (a_read : Nat) (a_pr_values : Nat) (b_plT : Nat) (plT : Nat → Int32) (b_pmT : Nat) (pmT : Nat → Int32) (b_puT : Nat) (puT : Nat → Int32) (tape_length : Int32) (tape_bytes : Nat → Int32) (pr_ruled : Int32) (r0 : Int32) (o_tape_at : Int32) (o_pr_values : Nat → Int32) (hs_plT : (("GloveHouses$PeaceReader", "LETTERS", "[C", b_plT, .char, 12, plT) : sx_T) ∈ sx) (hs_pmT : (("GloveHouses$PeaceReader", "MOST", "[I", b_pmT, .int, 12, pmT) : sx_T) ∈ sx) (hs_puT : (("GloveHouses$PeaceReader", "USUAL", "[I", b_puT, .int, 12, puT) : sx_T) ∈ sx)   (tape_at : Int32) (pr_values : Nat → Int32) (v1 : Int32) {H : Heap} {locs : List Loc} {ls : Array Slot} (hf : b_X6_readsItems_0 tape_length tape_bytes plT pmT puT  tape_at pr_values v1 = some (r0, o_tape_at, o_pr_values)) (hw : Wo D A s [(oX10 a_tape (.ref a_tape_bytes) (.int tape_length) (.int tape_at)), (a_tape_bytes, .inl (cI, 240, .inl tape_bytes)), (oX6 a_pr (.ref a_read) (.ref a_tape) (.ref a_pr_values) (.int pr_ruled)), (a_pr_values, .inl (cI, 4, .inl pr_values))] H locs) (hl : lv_has ls 6 [(0, .ref a_pr), (1, .int v1)]) : W p l e rm_X6_readsItems s m args below meth c H locs 0 0 (MQ below (QcI D A r0 [(oX10 a_tape (.ref a_tape_bytes) (.int tape_length) (.int o_tape_at)), (a_tape_bytes, .inl (cI, 240, .inl tape_bytes)), (oX6 a_pr (.ref a_read) (.ref a_tape) (.ref a_pr_values) (.int pr_ruled)), (a_pr_values, .inl (cI, 4, .inl o_pr_values))]) args s 0 0 A) (F0 m 0 ls []) := by
  obtain ⟨hx, hb, hml, hown, hts, hr, hlk⟩ := id C
  obtain ⟨hK, hX, hA⟩ := id K
  unfold b_X6_readsItems_0 at hf
  refine va_gets (v := .ref b_puT) hx hb (hX _ hs_puT).1 hw.2.2 hown (hts _ lk_X6_readsItems_0) (fun _ h9 => h9) dX6_readsItems_0 ?_
  refine lv_iload_n hx hb dX6_readsItems_3 rfl (lv_at hl 1 rfl) ?_
  refine lv_iconst (v := (4 : Int32)) hx hb dX6_readsItems_4 (by decide) ?_
  refine lv_imul hx hb dX6_readsItems_5 ?_
  refine lv_aload_n hx hb dX6_readsItems_6 rfl (lv_at hl 0 rfl) ?_
  refine va_get (ci := 6) (v := .ref a_pr_values) (C := RX6) (T := TX6) (N := 4) hx hb hts in_X6_readsItems_X6 hown hK hw.1 2 rfl rfl 2 (by decide) (hts _ lk_X6_readsItems_1) (fun _ h9 => h9) rfl dX6_readsItems_7 ?_
  refine lv_iconst (v := (0 : Int32)) hx hb dX6_readsItems_10 (by decide) ?_
  refine lv_iconst (v := (4 : Int32)) hx hb dX6_readsItems_11 (by decide) ?_
  obtain ⟨hc_1, hf⟩ := gd_some hf
  obtain ⟨hc_2, hf⟩ := gd_some hf
  obtain ⟨pr_values_3, e_pr_values_3, hf⟩ := bnd_some hf
  refine sx_cpy hx hb (hml.trans hl.1.symm) hown (hts _ lk_X6_readsItems_2) (hts _ lk_X6_readsItems_3) (hts _ lk_X6_readsItems_4) (hts _ lk_X6_readsItems_5) hK hw.1 hw.2.1 hw.2.2 (hX _ hs_puT).2.1 (hX _ hs_puT).2.2 3 0 rfl rfl rfl (spB_sp hc_1).1 (spB_sp hc_2).1 (spB_sp hc_1).2.1 (spB_sp hc_1).2.2 (spB_sp hc_2).2.2 (fun _ _ => rfl) (Nat.le_of_ble_eq_true rfl) (Nat.le_of_ble_eq_true rfl) dX6_readsItems_12 (fun H locs hP hD hS => ?_)
  have hw : Wo D A s [(oX10 a_tape (.ref a_tape_bytes) (.int tape_length) (.int tape_at)), (a_tape_bytes, .inl (cI, 240, .inl tape_bytes)), (oX6 a_pr (.ref a_read) (.ref a_tape) (.ref a_pr_values) (.int pr_ruled)), (a_pr_values, .inl (cI, 4, .inl pr_values_3))] H locs := by rw [e_pr_values_3]; exact ⟨hP, hD, hS⟩
  refine lv_iconst (v := (0 : Int32)) hx hb dX6_readsItems_15 (by decide) ?_
  refine lv_istore_n (lv' := [(2, .int (0 : Int32)), (0, .ref a_pr), (1, .int v1)]) hx hb dX6_readsItems_16 rfl hl (by decide) rfl (fun ls hl => ?_)
  refine lv_iconst (v := (0 : Int32)) hx hb dX6_readsItems_17 (by decide) ?_
  refine lv_istore_n (lv' := [(3, .int (0 : Int32)), (2, .int (0 : Int32)), (0, .ref a_pr), (1, .int v1)]) hx hb dX6_readsItems_18 rfl hl (by decide) rfl (fun ls hl => ?_)
  exact qf_X6_readsItems_19 C K a_tape a_tape_bytes a_pr a_read a_pr_values b_plT plT b_pmT pmT b_puT puT tape_length tape_bytes pr_ruled r0 o_tape_at o_pr_values hs_plT hs_pmT hs_puT  fu tape_at pr_values_3 v1 (0 : Int32) (0 : Int32) _ _ _ hf hw (lv_sub hl [2, 3, 1, 0] rfl)
set_option maxHeartbeats 4000000 in
set_option maxRecDepth 100000 in
theorem k_X6_readsItems {l : Launch} {sx : List sx_T} {D : va_G} {cI cZ cO : ClassId} (a_tape : Nat) (a_tape_bytes : Nat) (a_pr : Nat) (a_read : Nat) (a_pr_values : Nat) (b_plT : Nat) (plT : Nat → Int32) (b_pmT : Nat) (pmT : Nat → Int32) (b_puT : Nat) (puT : Nat → Int32) (tape_length : Int32) (tape_bytes : Nat → Int32) (pr_ruled : Int32) (r0 : Int32) (o_tape_at : Int32) (o_pr_values : Nat → Int32) (tape_at : Int32) (pr_values : Nat → Int32) (p1 : Int32) (hs_plT : (("GloveHouses$PeaceReader", "LETTERS", "[C", b_plT, .char, 12, plT) : sx_T) ∈ sx) (hs_pmT : (("GloveHouses$PeaceReader", "MOST", "[I", b_pmT, .int, 12, pmT) : sx_T) ∈ sx) (hs_puT : (("GloveHouses$PeaceReader", "USUAL", "[I", b_puT, .int, 12, puT) : sx_T) ∈ sx) (hF : f_X6_readsItems tape_length tape_bytes plT pmT puT tape_at pr_values p1 = some (r0, o_tape_at, o_pr_values)) : CtI l yX6_readsItems wsX6_readsItems rm_X6_readsItems sx D (tyL cI cZ cO) [.ref a_pr, .int p1] [(oX10 a_tape (.ref a_tape_bytes) (.int tape_length) (.int tape_at)), (a_tape_bytes, .inl (cI, 240, .inl tape_bytes)), (oX6 a_pr (.ref a_read) (.ref a_tape) (.ref a_pr_values) (.int pr_ruled)), (a_pr_values, .inl (cI, 4, .inl pr_values))] r0 [(oX10 a_tape (.ref a_tape_bytes) (.int tape_length) (.int o_tape_at)), (a_tape_bytes, .inl (cI, 240, .inl tape_bytes)), (oX6 a_pr (.ref a_read) (.ref a_tape) (.ref a_pr_values) (.int pr_ruled)), (a_pr_values, .inl (cI, 4, .inl o_pr_values))] := by
  refine ctI_of (cc := cX6_readsItems) (ret := (some .boolean)) (maxL := 6) (by decide) rfl (Nat.le_of_ble_eq_true rfl) ?_
  intro p e s m below meth c A ls C K hw hl
  exact q_X6_readsItems_0 C K a_tape a_tape_bytes a_pr a_read a_pr_values b_plT plT b_pmT pmT b_puT puT tape_length tape_bytes pr_ruled r0 o_tape_at o_pr_values hs_plT hs_pmT hs_puT tape_at pr_values p1 hF hw (lv_sub hl [0, 1] rfl)
abbrev rm_X6_keep : Room := { frames := 0, cells := 0, slots := 0, locals := 0 }
theorem in_X6_keep_X6 : ∀ w ∈ u_ws RX6 TX6 4, w ∈ wsX6_keep := fun w h => List.mem_cons_of_mem _ (bi_wsX60 w h)
theorem in_X6_keep_X5 : ∀ w ∈ u_ws RX5 TX5 10, w ∈ wsX6_keep := fun w h => List.mem_cons_of_mem _ (bi_wsX50 w h)
theorem lk_X6_keep_0 : Cond.fieldLink RX6 12 "GloveHouses$PeaceReader" "read" "LGloveHouses$Peace;" ∈ wsX6_keep := List.mem_cons_of_mem _ (bi_wsL_law0_r4 _ (List.mem_of_getElem? (i := 3) rfl))
theorem lk_X6_keep_1 : Cond.fieldLink RX6 116 "GloveHouses$Peace" "weight" "[I" ∈ wsX6_keep := List.mem_cons_of_mem _ (bi_wsL_law0_r12 _ (List.mem_of_getElem? (i := 2) rfl))
theorem lk_X6_keep_2 : Cond.fieldLink RX6 39 "GloveHouses$Peace" "matters" "I" ∈ wsX6_keep := List.mem_cons_of_mem _ (bi_wsL_law0_r9 _ (List.mem_of_getElem? (i := 20) rfl))
theorem lk_X6_keep_3 : Cond.fieldLink RX6 18 "GloveHouses$PeaceReader" "values" "[I" ∈ wsX6_keep := List.mem_cons_of_mem _ (bi_wsL_law0_r4 _ (List.mem_of_getElem? (i := 4) rfl))
theorem lk_X6_keep_4 : Cond.fieldLink RX6 119 "GloveHouses$Peace" "need" "[I" ∈ wsX6_keep := List.mem_cons_of_mem _ (bi_wsL_law0_r12 _ (List.mem_of_getElem? (i := 3) rfl))
theorem lk_X6_keep_5 : Cond.fieldLink RX6 104 "GloveHouses$Peace" "house" "[I" ∈ wsX6_keep := List.mem_cons_of_mem _ (bi_wsL_law0_r11 _ (List.mem_of_getElem? (i := 22) rfl))
theorem lk_X6_keep_6 : Cond.fieldLink RX6 36 "GloveHouses$Peace" "gloves" "I" ∈ wsX6_keep := List.mem_cons_of_mem _ (bi_wsL_law0_r9 _ (List.mem_of_getElem? (i := 19) rfl))
theorem lk_X6_keep_7 : Cond.fieldLink RX6 107 "GloveHouses$Peace" "free" "[I" ∈ wsX6_keep := List.mem_cons_of_mem _ (bi_wsL_law0_r11 _ (List.mem_of_getElem? (i := 23) rfl))
theorem lk_X6_keep_8 : Cond.fieldLink RX6 110 "GloveHouses$Peace" "stuffed" "[I" ∈ wsX6_keep := List.mem_cons_of_mem _ (bi_wsL_law0_r12 _ (List.mem_of_getElem? (i := 0) rfl))
theorem lk_X6_keep_9 : Cond.fieldLink RX6 113 "GloveHouses$Peace" "after" "[I" ∈ wsX6_keep := List.mem_cons_of_mem _ (bi_wsL_law0_r12 _ (List.mem_of_getElem? (i := 1) rfl))
theorem lk_X6_keep_10 : Cond.fieldLink RX6 32 "GloveHouses$PeaceReader" "ruled" "Z" ∈ wsX6_keep := List.mem_cons_of_mem _ (bi_wsL_law0_r9 _ (List.mem_of_getElem? (i := 18) rfl))
theorem lk_X6_keep_11 : Cond.fieldLink RX6 45 "GloveHouses$Peace" "pride" "I" ∈ wsX6_keep := List.mem_cons_of_mem _ (bi_wsL_law0_r9 _ (List.mem_of_getElem? (i := 22) rfl))
theorem lk_X6_keep_12 : Cond.fieldLink RX6 48 "GloveHouses$Peace" "coins" "I" ∈ wsX6_keep := List.mem_cons_of_mem _ (bi_wsL_law0_r9 _ (List.mem_of_getElem? (i := 23) rfl))
set_option maxHeartbeats 4000000 in
set_option maxRecDepth 100000 in
theorem q_X6_keep_0 {p : Program} {l : Launch} {e : Env} {s : State} {m : MethodId} {args : Array Value} {below : List Frame} {meth : Method} {c : Code} {sx : List sx_T} {D : va_G} {cI cZ cO : ClassId} {A : Nat → Prop} (C : Cx p s m args meth c RX6 wsX6_keep cX6_keep 2 none) (K : Kx sx D (tyL cI cZ cO) A s) (a_pr : Nat) (a_read : Nat) (a_tape : Nat) (a_pr_values : Nat) (a_read_house : Nat) (a_read_free : Nat) (a_read_stuffed : Nat) (a_read_after : Nat) (a_read_weight : Nat) (a_read_need : Nat) (pr_values : Nat → Int32) (o_pr_ruled : Int32) (o_read_gloves : Int32) (o_read_matters : Int32) (o_read_pride : Int32) (o_read_coins : Int32) (o_read_house : Nat → Int32) (o_read_free : Nat → Int32) (o_read_stuffed : Nat → Int32) (o_read_after : Nat → Int32) (o_read_weight : Nat → Int32) (o_read_need : Nat → Int32)    (pr_ruled : Int32) (read_gloves : Int32) (read_matters : Int32) (read_pride : Int32) (read_coins : Int32) (read_house : Nat → Int32) (read_free : Nat → Int32) (read_stuffed : Nat → Int32) (read_after : Nat → Int32) (read_weight : Nat → Int32) (read_need : Nat → Int32) (v1 : Int32) {H : Heap} {locs : List Loc} {ls : Array Slot} (hf : b_X6_keep_0 pr_values  pr_ruled read_gloves read_matters read_pride read_coins read_house read_free read_stuffed read_after read_weight read_need v1 = some (o_pr_ruled, o_read_gloves, o_read_matters, o_read_pride, o_read_coins, o_read_house, o_read_free, o_read_stuffed, o_read_after, o_read_weight, o_read_need)) (hw : Wo D A s [(oX6 a_pr (.ref a_read) (.ref a_tape) (.ref a_pr_values) (.int pr_ruled)), (a_pr_values, .inl (cI, 4, .inl pr_values)), (oX5 a_read (.int read_gloves) (.int read_matters) (.int read_pride) (.int read_coins) (.ref a_read_house) (.ref a_read_free) (.ref a_read_stuffed) (.ref a_read_after) (.ref a_read_weight) (.ref a_read_need)), (a_read_house, .inl (cI, 6, .inl read_house)), (a_read_free, .inl (cI, 6, .inl read_free)), (a_read_stuffed, .inl (cI, 6, .inl read_stuffed)), (a_read_after, .inl (cI, 6, .inl read_after)), (a_read_weight, .inl (cI, 5, .inl read_weight)), (a_read_need, .inl (cI, 5, .inl read_need))] H locs) (hl : lv_has ls 2 [(0, .ref a_pr), (1, .int v1)]) : W p l e rm_X6_keep s m args below meth c H locs 0 0 (MQ below (QcV D A [(oX6 a_pr (.ref a_read) (.ref a_tape) (.ref a_pr_values) (.int o_pr_ruled)), (a_pr_values, .inl (cI, 4, .inl pr_values)), (oX5 a_read (.int o_read_gloves) (.int o_read_matters) (.int o_read_pride) (.int o_read_coins) (.ref a_read_house) (.ref a_read_free) (.ref a_read_stuffed) (.ref a_read_after) (.ref a_read_weight) (.ref a_read_need)), (a_read_house, .inl (cI, 6, .inl o_read_house)), (a_read_free, .inl (cI, 6, .inl o_read_free)), (a_read_stuffed, .inl (cI, 6, .inl o_read_stuffed)), (a_read_after, .inl (cI, 6, .inl o_read_after)), (a_read_weight, .inl (cI, 5, .inl o_read_weight)), (a_read_need, .inl (cI, 5, .inl o_read_need))]) args s 0 0 A) (F0 m 0 ls []) := by
  obtain ⟨hx, hb, hml, hown, hts, hr, hlk⟩ := id C
  obtain ⟨hK, hX, hA⟩ := id K
  unfold b_X6_keep_0 at hf
  refine lv_iload_n hx hb dX6_keep_0 rfl (lv_at hl 1 rfl) ?_
  refine lv_if_ne (tgt := 38) hx hb dX6_keep_1 (by decide) (fun hc => ?_) (fun hc => ?_)
  · have hf := (if_neg hc).symm.trans hf
    refine lv_iload_n hx hb dX6_keep_38 rfl (lv_at hl 1 rfl) ?_
    refine lv_iconst (v := (1 : Int32)) hx hb dX6_keep_39 (by decide) ?_
    refine lv_icmp_ne (tgt := 143) hx hb dX6_keep_40 (by decide) (fun hc => ?_) (fun hc => ?_)
    · have hf := (if_neg hc).symm.trans hf
      refine lv_aload_n hx hb dX6_keep_143 rfl (lv_at hl 0 rfl) ?_
      refine va_get (ci := 6) (v := .ref a_read) (C := RX6) (T := TX6) (N := 4) hx hb hts in_X6_keep_X6 hown hK hw.1 0 rfl rfl 0 (by decide) (hts _ lk_X6_keep_0) (fun _ h9 => h9) rfl dX6_keep_144 ?_
      refine va_get (ci := 5) (v := .ref a_read_weight) (C := RX5) (T := TX5) (N := 10) hx hb hts in_X6_keep_X5 hown hK hw.1 2 rfl rfl 8 (by decide) (hts _ lk_X6_keep_1) (fun _ h9 => h9) rfl dX6_keep_147 ?_
      refine lv_aload_n hx hb dX6_keep_150 rfl (lv_at hl 0 rfl) ?_
      refine va_get (ci := 6) (v := .ref a_read) (C := RX6) (T := TX6) (N := 4) hx hb hts in_X6_keep_X6 hown hK hw.1 0 rfl rfl 0 (by decide) (hts _ lk_X6_keep_0) (fun _ h9 => h9) rfl dX6_keep_151 ?_
      refine va_get (ci := 5) (v := .int read_matters) (C := RX5) (T := TX5) (N := 10) hx hb hts in_X6_keep_X5 hown hK hw.1 2 rfl rfl 1 (by decide) (hts _ lk_X6_keep_2) (fun _ h9 => h9) rfl dX6_keep_154 ?_
      refine lv_aload_n hx hb dX6_keep_157 rfl (lv_at hl 0 rfl) ?_
      refine va_get (ci := 6) (v := .ref a_pr_values) (C := RX6) (T := TX6) (N := 4) hx hb hts in_X6_keep_X6 hown hK hw.1 0 rfl rfl 2 (by decide) (hts _ lk_X6_keep_3) (fun _ h9 => h9) rfl dX6_keep_158 ?_
      refine lv_iconst (v := (0 : Int32)) hx hb dX6_keep_161 (by decide) ?_
      obtain ⟨hc_1, hf⟩ := gd_some hf
      refine va_iald hx hb hK hw.1 1 0 rfl rfl (inB_in hc_1) dX6_keep_162 ?_
      obtain ⟨hc_2, hf⟩ := gd_some hf
      obtain ⟨read_weight_3, e_read_weight_3, hf⟩ := bnd_some hf
      refine va_iast hx hb hK hw.1 hw.2.1 hw.2.2 7 0 rfl rfl (inB_in hc_2) dX6_keep_163 (fun H locs hP hD hS => ?_)
      have hw : Wo D A s [(oX6 a_pr (.ref a_read) (.ref a_tape) (.ref a_pr_values) (.int pr_ruled)), (a_pr_values, .inl (cI, 4, .inl pr_values)), (oX5 a_read (.int read_gloves) (.int read_matters) (.int read_pride) (.int read_coins) (.ref a_read_house) (.ref a_read_free) (.ref a_read_stuffed) (.ref a_read_after) (.ref a_read_weight) (.ref a_read_need)), (a_read_house, .inl (cI, 6, .inl read_house)), (a_read_free, .inl (cI, 6, .inl read_free)), (a_read_stuffed, .inl (cI, 6, .inl read_stuffed)), (a_read_after, .inl (cI, 6, .inl read_after)), (a_read_weight, .inl (cI, 5, .inl read_weight_3)), (a_read_need, .inl (cI, 5, .inl read_need))] H locs := by rw [e_read_weight_3]; exact ⟨hP, hD, hS⟩
      refine lv_aload_n hx hb dX6_keep_164 rfl (lv_at hl 0 rfl) ?_
      refine va_get (ci := 6) (v := .ref a_read) (C := RX6) (T := TX6) (N := 4) hx hb hts in_X6_keep_X6 hown hK hw.1 0 rfl rfl 0 (by decide) (hts _ lk_X6_keep_0) (fun _ h9 => h9) rfl dX6_keep_165 ?_
      refine va_get (ci := 5) (v := .ref a_read_need) (C := RX5) (T := TX5) (N := 10) hx hb hts in_X6_keep_X5 hown hK hw.1 2 rfl rfl 9 (by decide) (hts _ lk_X6_keep_4) (fun _ h9 => h9) rfl dX6_keep_168 ?_
      refine lv_aload_n hx hb dX6_keep_171 rfl (lv_at hl 0 rfl) ?_
      refine va_get (ci := 6) (v := .ref a_read) (C := RX6) (T := TX6) (N := 4) hx hb hts in_X6_keep_X6 hown hK hw.1 0 rfl rfl 0 (by decide) (hts _ lk_X6_keep_0) (fun _ h9 => h9) rfl dX6_keep_172 ?_
      refine va_get (ci := 5) (v := .int read_matters) (C := RX5) (T := TX5) (N := 10) hx hb hts in_X6_keep_X5 hown hK hw.1 2 rfl rfl 1 (by decide) (hts _ lk_X6_keep_2) (fun _ h9 => h9) rfl dX6_keep_175 ?_
      refine lv_aload_n hx hb dX6_keep_178 rfl (lv_at hl 0 rfl) ?_
      refine va_get (ci := 6) (v := .ref a_pr_values) (C := RX6) (T := TX6) (N := 4) hx hb hts in_X6_keep_X6 hown hK hw.1 0 rfl rfl 2 (by decide) (hts _ lk_X6_keep_3) (fun _ h9 => h9) rfl dX6_keep_179 ?_
      refine lv_iconst (v := (1 : Int32)) hx hb dX6_keep_182 (by decide) ?_
      obtain ⟨hc_4, hf⟩ := gd_some hf
      refine va_iald hx hb hK hw.1 1 0 rfl rfl (inB_in hc_4) dX6_keep_183 ?_
      obtain ⟨hc_5, hf⟩ := gd_some hf
      obtain ⟨read_need_6, e_read_need_6, hf⟩ := bnd_some hf
      refine va_iast hx hb hK hw.1 hw.2.1 hw.2.2 8 0 rfl rfl (inB_in hc_5) dX6_keep_184 (fun H locs hP hD hS => ?_)
      have hw : Wo D A s [(oX6 a_pr (.ref a_read) (.ref a_tape) (.ref a_pr_values) (.int pr_ruled)), (a_pr_values, .inl (cI, 4, .inl pr_values)), (oX5 a_read (.int read_gloves) (.int read_matters) (.int read_pride) (.int read_coins) (.ref a_read_house) (.ref a_read_free) (.ref a_read_stuffed) (.ref a_read_after) (.ref a_read_weight) (.ref a_read_need)), (a_read_house, .inl (cI, 6, .inl read_house)), (a_read_free, .inl (cI, 6, .inl read_free)), (a_read_stuffed, .inl (cI, 6, .inl read_stuffed)), (a_read_after, .inl (cI, 6, .inl read_after)), (a_read_weight, .inl (cI, 5, .inl read_weight_3)), (a_read_need, .inl (cI, 5, .inl read_need_6))] H locs := by rw [e_read_need_6]; exact ⟨hP, hD, hS⟩
      refine lv_aload_n hx hb dX6_keep_185 rfl (lv_at hl 0 rfl) ?_
      refine va_get (ci := 6) (v := .ref a_read) (C := RX6) (T := TX6) (N := 4) hx hb hts in_X6_keep_X6 hown hK hw.1 0 rfl rfl 0 (by decide) (hts _ lk_X6_keep_0) (fun _ h9 => h9) rfl dX6_keep_186 ?_
      refine lv_dup hx hb dX6_keep_189 rfl ?_
      refine va_get (ci := 5) (v := .int read_matters) (C := RX5) (T := TX5) (N := 10) hx hb hts in_X6_keep_X5 hown hK hw.1 2 rfl rfl 1 (by decide) (hts _ lk_X6_keep_2) (fun _ h9 => h9) rfl dX6_keep_190 ?_
      refine lv_iconst (v := (1 : Int32)) hx hb dX6_keep_193 (by decide) ?_
      refine lv_iadd hx hb dX6_keep_194 ?_
      obtain ⟨matters_7, e_matters_7, hf⟩ := bnd_some hf
      refine lv_nmi e_matters_7 ?_
      refine va_put (ci := 5) (v := .int matters_7) (ty := .int) (C := RX5) (T := TX5) (N := 10) hx hb hts in_X6_keep_X5 tyX5 tyX5_ok nmX5 hown hK hw.1 hw.2.1 hw.2.2 2 rfl rfl 1 (by decide) (hts _ lk_X6_keep_2) (fun _ h9 => h9) rfl (by decide +kernel) rfl rfl (Nat.le_of_ble_eq_true rfl) dX6_keep_195 (fun H locs hP hD hS => ?_)
      have hw : Wo D A s [(oX6 a_pr (.ref a_read) (.ref a_tape) (.ref a_pr_values) (.int pr_ruled)), (a_pr_values, .inl (cI, 4, .inl pr_values)), (oX5 a_read (.int read_gloves) (.int matters_7) (.int read_pride) (.int read_coins) (.ref a_read_house) (.ref a_read_free) (.ref a_read_stuffed) (.ref a_read_after) (.ref a_read_weight) (.ref a_read_need)), (a_read_house, .inl (cI, 6, .inl read_house)), (a_read_free, .inl (cI, 6, .inl read_free)), (a_read_stuffed, .inl (cI, 6, .inl read_stuffed)), (a_read_after, .inl (cI, 6, .inl read_after)), (a_read_weight, .inl (cI, 5, .inl read_weight_3)), (a_read_need, .inl (cI, 5, .inl read_need_6))] H locs := ⟨hP, hD, hS⟩
      cases hf
      exact retV C hw dX6_keep_198
    · have hf := (if_pos hc).symm.trans hf
      refine lv_aload_n hx hb dX6_keep_43 rfl (lv_at hl 0 rfl) ?_
      refine va_get (ci := 6) (v := .ref a_read) (C := RX6) (T := TX6) (N := 4) hx hb hts in_X6_keep_X6 hown hK hw.1 0 rfl rfl 0 (by decide) (hts _ lk_X6_keep_0) (fun _ h9 => h9) rfl dX6_keep_44 ?_
      refine va_get (ci := 5) (v := .ref a_read_house) (C := RX5) (T := TX5) (N := 10) hx hb hts in_X6_keep_X5 hown hK hw.1 2 rfl rfl 4 (by decide) (hts _ lk_X6_keep_5) (fun _ h9 => h9) rfl dX6_keep_47 ?_
      refine lv_aload_n hx hb dX6_keep_50 rfl (lv_at hl 0 rfl) ?_
      refine va_get (ci := 6) (v := .ref a_read) (C := RX6) (T := TX6) (N := 4) hx hb hts in_X6_keep_X6 hown hK hw.1 0 rfl rfl 0 (by decide) (hts _ lk_X6_keep_0) (fun _ h9 => h9) rfl dX6_keep_51 ?_
      refine va_get (ci := 5) (v := .int read_gloves) (C := RX5) (T := TX5) (N := 10) hx hb hts in_X6_keep_X5 hown hK hw.1 2 rfl rfl 0 (by decide) (hts _ lk_X6_keep_6) (fun _ h9 => h9) rfl dX6_keep_54 ?_
      refine lv_aload_n hx hb dX6_keep_57 rfl (lv_at hl 0 rfl) ?_
      refine va_get (ci := 6) (v := .ref a_pr_values) (C := RX6) (T := TX6) (N := 4) hx hb hts in_X6_keep_X6 hown hK hw.1 0 rfl rfl 2 (by decide) (hts _ lk_X6_keep_3) (fun _ h9 => h9) rfl dX6_keep_58 ?_
      refine lv_iconst (v := (0 : Int32)) hx hb dX6_keep_61 (by decide) ?_
      obtain ⟨hc_8, hf⟩ := gd_some hf
      refine va_iald hx hb hK hw.1 1 0 rfl rfl (inB_in hc_8) dX6_keep_62 ?_
      obtain ⟨hc_9, hf⟩ := gd_some hf
      obtain ⟨read_house_10, e_read_house_10, hf⟩ := bnd_some hf
      refine va_iast hx hb hK hw.1 hw.2.1 hw.2.2 3 0 rfl rfl (inB_in hc_9) dX6_keep_63 (fun H locs hP hD hS => ?_)
      have hw : Wo D A s [(oX6 a_pr (.ref a_read) (.ref a_tape) (.ref a_pr_values) (.int pr_ruled)), (a_pr_values, .inl (cI, 4, .inl pr_values)), (oX5 a_read (.int read_gloves) (.int read_matters) (.int read_pride) (.int read_coins) (.ref a_read_house) (.ref a_read_free) (.ref a_read_stuffed) (.ref a_read_after) (.ref a_read_weight) (.ref a_read_need)), (a_read_house, .inl (cI, 6, .inl read_house_10)), (a_read_free, .inl (cI, 6, .inl read_free)), (a_read_stuffed, .inl (cI, 6, .inl read_stuffed)), (a_read_after, .inl (cI, 6, .inl read_after)), (a_read_weight, .inl (cI, 5, .inl read_weight)), (a_read_need, .inl (cI, 5, .inl read_need))] H locs := by rw [e_read_house_10]; exact ⟨hP, hD, hS⟩
      refine lv_aload_n hx hb dX6_keep_64 rfl (lv_at hl 0 rfl) ?_
      refine va_get (ci := 6) (v := .ref a_read) (C := RX6) (T := TX6) (N := 4) hx hb hts in_X6_keep_X6 hown hK hw.1 0 rfl rfl 0 (by decide) (hts _ lk_X6_keep_0) (fun _ h9 => h9) rfl dX6_keep_65 ?_
      refine va_get (ci := 5) (v := .ref a_read_free) (C := RX5) (T := TX5) (N := 10) hx hb hts in_X6_keep_X5 hown hK hw.1 2 rfl rfl 5 (by decide) (hts _ lk_X6_keep_7) (fun _ h9 => h9) rfl dX6_keep_68 ?_
      refine lv_aload_n hx hb dX6_keep_71 rfl (lv_at hl 0 rfl) ?_
      refine va_get (ci := 6) (v := .ref a_read) (C := RX6) (T := TX6) (N := 4) hx hb hts in_X6_keep_X6 hown hK hw.1 0 rfl rfl 0 (by decide) (hts _ lk_X6_keep_0) (fun _ h9 => h9) rfl dX6_keep_72 ?_
      refine va_get (ci := 5) (v := .int read_gloves) (C := RX5) (T := TX5) (N := 10) hx hb hts in_X6_keep_X5 hown hK hw.1 2 rfl rfl 0 (by decide) (hts _ lk_X6_keep_6) (fun _ h9 => h9) rfl dX6_keep_75 ?_
      refine lv_aload_n hx hb dX6_keep_78 rfl (lv_at hl 0 rfl) ?_
      refine va_get (ci := 6) (v := .ref a_pr_values) (C := RX6) (T := TX6) (N := 4) hx hb hts in_X6_keep_X6 hown hK hw.1 0 rfl rfl 2 (by decide) (hts _ lk_X6_keep_3) (fun _ h9 => h9) rfl dX6_keep_79 ?_
      refine lv_iconst (v := (1 : Int32)) hx hb dX6_keep_82 (by decide) ?_
      obtain ⟨hc_11, hf⟩ := gd_some hf
      refine va_iald hx hb hK hw.1 1 0 rfl rfl (inB_in hc_11) dX6_keep_83 ?_
      obtain ⟨hc_12, hf⟩ := gd_some hf
      obtain ⟨read_free_13, e_read_free_13, hf⟩ := bnd_some hf
      refine va_iast hx hb hK hw.1 hw.2.1 hw.2.2 4 0 rfl rfl (inB_in hc_12) dX6_keep_84 (fun H locs hP hD hS => ?_)
      have hw : Wo D A s [(oX6 a_pr (.ref a_read) (.ref a_tape) (.ref a_pr_values) (.int pr_ruled)), (a_pr_values, .inl (cI, 4, .inl pr_values)), (oX5 a_read (.int read_gloves) (.int read_matters) (.int read_pride) (.int read_coins) (.ref a_read_house) (.ref a_read_free) (.ref a_read_stuffed) (.ref a_read_after) (.ref a_read_weight) (.ref a_read_need)), (a_read_house, .inl (cI, 6, .inl read_house_10)), (a_read_free, .inl (cI, 6, .inl read_free_13)), (a_read_stuffed, .inl (cI, 6, .inl read_stuffed)), (a_read_after, .inl (cI, 6, .inl read_after)), (a_read_weight, .inl (cI, 5, .inl read_weight)), (a_read_need, .inl (cI, 5, .inl read_need))] H locs := by rw [e_read_free_13]; exact ⟨hP, hD, hS⟩
      refine lv_aload_n hx hb dX6_keep_85 rfl (lv_at hl 0 rfl) ?_
      refine va_get (ci := 6) (v := .ref a_read) (C := RX6) (T := TX6) (N := 4) hx hb hts in_X6_keep_X6 hown hK hw.1 0 rfl rfl 0 (by decide) (hts _ lk_X6_keep_0) (fun _ h9 => h9) rfl dX6_keep_86 ?_
      refine va_get (ci := 5) (v := .ref a_read_stuffed) (C := RX5) (T := TX5) (N := 10) hx hb hts in_X6_keep_X5 hown hK hw.1 2 rfl rfl 6 (by decide) (hts _ lk_X6_keep_8) (fun _ h9 => h9) rfl dX6_keep_89 ?_
      refine lv_aload_n hx hb dX6_keep_92 rfl (lv_at hl 0 rfl) ?_
      refine va_get (ci := 6) (v := .ref a_read) (C := RX6) (T := TX6) (N := 4) hx hb hts in_X6_keep_X6 hown hK hw.1 0 rfl rfl 0 (by decide) (hts _ lk_X6_keep_0) (fun _ h9 => h9) rfl dX6_keep_93 ?_
      refine va_get (ci := 5) (v := .int read_gloves) (C := RX5) (T := TX5) (N := 10) hx hb hts in_X6_keep_X5 hown hK hw.1 2 rfl rfl 0 (by decide) (hts _ lk_X6_keep_6) (fun _ h9 => h9) rfl dX6_keep_96 ?_
      refine lv_aload_n hx hb dX6_keep_99 rfl (lv_at hl 0 rfl) ?_
      refine va_get (ci := 6) (v := .ref a_pr_values) (C := RX6) (T := TX6) (N := 4) hx hb hts in_X6_keep_X6 hown hK hw.1 0 rfl rfl 2 (by decide) (hts _ lk_X6_keep_3) (fun _ h9 => h9) rfl dX6_keep_100 ?_
      refine lv_iconst (v := (2 : Int32)) hx hb dX6_keep_103 (by decide) ?_
      obtain ⟨hc_14, hf⟩ := gd_some hf
      refine va_iald hx hb hK hw.1 1 0 rfl rfl (inB_in hc_14) dX6_keep_104 ?_
      obtain ⟨hc_15, hf⟩ := gd_some hf
      obtain ⟨read_stuffed_16, e_read_stuffed_16, hf⟩ := bnd_some hf
      refine va_iast hx hb hK hw.1 hw.2.1 hw.2.2 5 0 rfl rfl (inB_in hc_15) dX6_keep_105 (fun H locs hP hD hS => ?_)
      have hw : Wo D A s [(oX6 a_pr (.ref a_read) (.ref a_tape) (.ref a_pr_values) (.int pr_ruled)), (a_pr_values, .inl (cI, 4, .inl pr_values)), (oX5 a_read (.int read_gloves) (.int read_matters) (.int read_pride) (.int read_coins) (.ref a_read_house) (.ref a_read_free) (.ref a_read_stuffed) (.ref a_read_after) (.ref a_read_weight) (.ref a_read_need)), (a_read_house, .inl (cI, 6, .inl read_house_10)), (a_read_free, .inl (cI, 6, .inl read_free_13)), (a_read_stuffed, .inl (cI, 6, .inl read_stuffed_16)), (a_read_after, .inl (cI, 6, .inl read_after)), (a_read_weight, .inl (cI, 5, .inl read_weight)), (a_read_need, .inl (cI, 5, .inl read_need))] H locs := by rw [e_read_stuffed_16]; exact ⟨hP, hD, hS⟩
      refine lv_aload_n hx hb dX6_keep_106 rfl (lv_at hl 0 rfl) ?_
      refine va_get (ci := 6) (v := .ref a_read) (C := RX6) (T := TX6) (N := 4) hx hb hts in_X6_keep_X6 hown hK hw.1 0 rfl rfl 0 (by decide) (hts _ lk_X6_keep_0) (fun _ h9 => h9) rfl dX6_keep_107 ?_
      refine va_get (ci := 5) (v := .ref a_read_after) (C := RX5) (T := TX5) (N := 10) hx hb hts in_X6_keep_X5 hown hK hw.1 2 rfl rfl 7 (by decide) (hts _ lk_X6_keep_9) (fun _ h9 => h9) rfl dX6_keep_110 ?_
      refine lv_aload_n hx hb dX6_keep_113 rfl (lv_at hl 0 rfl) ?_
      refine va_get (ci := 6) (v := .ref a_read) (C := RX6) (T := TX6) (N := 4) hx hb hts in_X6_keep_X6 hown hK hw.1 0 rfl rfl 0 (by decide) (hts _ lk_X6_keep_0) (fun _ h9 => h9) rfl dX6_keep_114 ?_
      refine va_get (ci := 5) (v := .int read_gloves) (C := RX5) (T := TX5) (N := 10) hx hb hts in_X6_keep_X5 hown hK hw.1 2 rfl rfl 0 (by decide) (hts _ lk_X6_keep_6) (fun _ h9 => h9) rfl dX6_keep_117 ?_
      refine lv_aload_n hx hb dX6_keep_120 rfl (lv_at hl 0 rfl) ?_
      refine va_get (ci := 6) (v := .ref a_pr_values) (C := RX6) (T := TX6) (N := 4) hx hb hts in_X6_keep_X6 hown hK hw.1 0 rfl rfl 2 (by decide) (hts _ lk_X6_keep_3) (fun _ h9 => h9) rfl dX6_keep_121 ?_
      refine lv_iconst (v := (3 : Int32)) hx hb dX6_keep_124 (by decide) ?_
      obtain ⟨hc_17, hf⟩ := gd_some hf
      refine va_iald hx hb hK hw.1 1 0 rfl rfl (inB_in hc_17) dX6_keep_125 ?_
      obtain ⟨hc_18, hf⟩ := gd_some hf
      obtain ⟨read_after_19, e_read_after_19, hf⟩ := bnd_some hf
      refine va_iast hx hb hK hw.1 hw.2.1 hw.2.2 6 0 rfl rfl (inB_in hc_18) dX6_keep_126 (fun H locs hP hD hS => ?_)
      have hw : Wo D A s [(oX6 a_pr (.ref a_read) (.ref a_tape) (.ref a_pr_values) (.int pr_ruled)), (a_pr_values, .inl (cI, 4, .inl pr_values)), (oX5 a_read (.int read_gloves) (.int read_matters) (.int read_pride) (.int read_coins) (.ref a_read_house) (.ref a_read_free) (.ref a_read_stuffed) (.ref a_read_after) (.ref a_read_weight) (.ref a_read_need)), (a_read_house, .inl (cI, 6, .inl read_house_10)), (a_read_free, .inl (cI, 6, .inl read_free_13)), (a_read_stuffed, .inl (cI, 6, .inl read_stuffed_16)), (a_read_after, .inl (cI, 6, .inl read_after_19)), (a_read_weight, .inl (cI, 5, .inl read_weight)), (a_read_need, .inl (cI, 5, .inl read_need))] H locs := by rw [e_read_after_19]; exact ⟨hP, hD, hS⟩
      refine lv_aload_n hx hb dX6_keep_127 rfl (lv_at hl 0 rfl) ?_
      refine va_get (ci := 6) (v := .ref a_read) (C := RX6) (T := TX6) (N := 4) hx hb hts in_X6_keep_X6 hown hK hw.1 0 rfl rfl 0 (by decide) (hts _ lk_X6_keep_0) (fun _ h9 => h9) rfl dX6_keep_128 ?_
      refine lv_dup hx hb dX6_keep_131 rfl ?_
      refine va_get (ci := 5) (v := .int read_gloves) (C := RX5) (T := TX5) (N := 10) hx hb hts in_X6_keep_X5 hown hK hw.1 2 rfl rfl 0 (by decide) (hts _ lk_X6_keep_6) (fun _ h9 => h9) rfl dX6_keep_132 ?_
      refine lv_iconst (v := (1 : Int32)) hx hb dX6_keep_135 (by decide) ?_
      refine lv_iadd hx hb dX6_keep_136 ?_
      obtain ⟨gloves_20, e_gloves_20, hf⟩ := bnd_some hf
      refine lv_nmi e_gloves_20 ?_
      refine va_put (ci := 5) (v := .int gloves_20) (ty := .int) (C := RX5) (T := TX5) (N := 10) hx hb hts in_X6_keep_X5 tyX5 tyX5_ok nmX5 hown hK hw.1 hw.2.1 hw.2.2 2 rfl rfl 0 (by decide) (hts _ lk_X6_keep_6) (fun _ h9 => h9) rfl (by decide +kernel) rfl rfl (Nat.le_of_ble_eq_true rfl) dX6_keep_137 (fun H locs hP hD hS => ?_)
      have hw : Wo D A s [(oX6 a_pr (.ref a_read) (.ref a_tape) (.ref a_pr_values) (.int pr_ruled)), (a_pr_values, .inl (cI, 4, .inl pr_values)), (oX5 a_read (.int gloves_20) (.int read_matters) (.int read_pride) (.int read_coins) (.ref a_read_house) (.ref a_read_free) (.ref a_read_stuffed) (.ref a_read_after) (.ref a_read_weight) (.ref a_read_need)), (a_read_house, .inl (cI, 6, .inl read_house_10)), (a_read_free, .inl (cI, 6, .inl read_free_13)), (a_read_stuffed, .inl (cI, 6, .inl read_stuffed_16)), (a_read_after, .inl (cI, 6, .inl read_after_19)), (a_read_weight, .inl (cI, 5, .inl read_weight)), (a_read_need, .inl (cI, 5, .inl read_need))] H locs := ⟨hP, hD, hS⟩
      refine lv_goto (tgt := 198) hx hb dX6_keep_140 (by decide) ?_
      cases hf
      exact retV C hw dX6_keep_198
  · have hf := (if_pos hc).symm.trans hf
    refine lv_aload_n hx hb dX6_keep_4 rfl (lv_at hl 0 rfl) ?_
    refine lv_iconst (v := (1 : Int32)) hx hb dX6_keep_5 (by decide) ?_
    refine va_put (ci := 6) (v := .int (1 : Int32)) (ty := .boolean) (C := RX6) (T := TX6) (N := 4) hx hb hts in_X6_keep_X6 tyX6 tyX6_ok nmX6 hown hK hw.1 hw.2.1 hw.2.2 0 rfl rfl 3 (by decide) (hts _ lk_X6_keep_10) (fun _ h9 => h9) rfl (by decide +kernel) rfl rfl (Nat.le_of_ble_eq_true rfl) dX6_keep_6 (fun H locs hP hD hS => ?_)
    have hw : Wo D A s [(oX6 a_pr (.ref a_read) (.ref a_tape) (.ref a_pr_values) (.int (1 : Int32))), (a_pr_values, .inl (cI, 4, .inl pr_values)), (oX5 a_read (.int read_gloves) (.int read_matters) (.int read_pride) (.int read_coins) (.ref a_read_house) (.ref a_read_free) (.ref a_read_stuffed) (.ref a_read_after) (.ref a_read_weight) (.ref a_read_need)), (a_read_house, .inl (cI, 6, .inl read_house)), (a_read_free, .inl (cI, 6, .inl read_free)), (a_read_stuffed, .inl (cI, 6, .inl read_stuffed)), (a_read_after, .inl (cI, 6, .inl read_after)), (a_read_weight, .inl (cI, 5, .inl read_weight)), (a_read_need, .inl (cI, 5, .inl read_need))] H locs := ⟨hP, hD, hS⟩
    refine lv_aload_n hx hb dX6_keep_9 rfl (lv_at hl 0 rfl) ?_
    refine va_get (ci := 6) (v := .ref a_read) (C := RX6) (T := TX6) (N := 4) hx hb hts in_X6_keep_X6 hown hK hw.1 0 rfl rfl 0 (by decide) (hts _ lk_X6_keep_0) (fun _ h9 => h9) rfl dX6_keep_10 ?_
    refine lv_aload_n hx hb dX6_keep_13 rfl (lv_at hl 0 rfl) ?_
    refine va_get (ci := 6) (v := .ref a_pr_values) (C := RX6) (T := TX6) (N := 4) hx hb hts in_X6_keep_X6 hown hK hw.1 0 rfl rfl 2 (by decide) (hts _ lk_X6_keep_3) (fun _ h9 => h9) rfl dX6_keep_14 ?_
    refine lv_iconst (v := (0 : Int32)) hx hb dX6_keep_17 (by decide) ?_
    obtain ⟨hc_21, hf⟩ := gd_some hf
    refine va_iald hx hb hK hw.1 1 0 rfl rfl (inB_in hc_21) dX6_keep_18 ?_
    obtain ⟨pride_22, e_pride_22, hf⟩ := bnd_some hf
    refine lv_nmi e_pride_22 ?_
    refine va_put (ci := 5) (v := .int pride_22) (ty := .int) (C := RX5) (T := TX5) (N := 10) hx hb hts in_X6_keep_X5 tyX5 tyX5_ok nmX5 hown hK hw.1 hw.2.1 hw.2.2 2 rfl rfl 2 (by decide) (hts _ lk_X6_keep_11) (fun _ h9 => h9) rfl (by decide +kernel) rfl rfl (Nat.le_of_ble_eq_true rfl) dX6_keep_19 (fun H locs hP hD hS => ?_)
    have hw : Wo D A s [(oX6 a_pr (.ref a_read) (.ref a_tape) (.ref a_pr_values) (.int (1 : Int32))), (a_pr_values, .inl (cI, 4, .inl pr_values)), (oX5 a_read (.int read_gloves) (.int read_matters) (.int pride_22) (.int read_coins) (.ref a_read_house) (.ref a_read_free) (.ref a_read_stuffed) (.ref a_read_after) (.ref a_read_weight) (.ref a_read_need)), (a_read_house, .inl (cI, 6, .inl read_house)), (a_read_free, .inl (cI, 6, .inl read_free)), (a_read_stuffed, .inl (cI, 6, .inl read_stuffed)), (a_read_after, .inl (cI, 6, .inl read_after)), (a_read_weight, .inl (cI, 5, .inl read_weight)), (a_read_need, .inl (cI, 5, .inl read_need))] H locs := ⟨hP, hD, hS⟩
    refine lv_aload_n hx hb dX6_keep_22 rfl (lv_at hl 0 rfl) ?_
    refine va_get (ci := 6) (v := .ref a_read) (C := RX6) (T := TX6) (N := 4) hx hb hts in_X6_keep_X6 hown hK hw.1 0 rfl rfl 0 (by decide) (hts _ lk_X6_keep_0) (fun _ h9 => h9) rfl dX6_keep_23 ?_
    refine lv_aload_n hx hb dX6_keep_26 rfl (lv_at hl 0 rfl) ?_
    refine va_get (ci := 6) (v := .ref a_pr_values) (C := RX6) (T := TX6) (N := 4) hx hb hts in_X6_keep_X6 hown hK hw.1 0 rfl rfl 2 (by decide) (hts _ lk_X6_keep_3) (fun _ h9 => h9) rfl dX6_keep_27 ?_
    refine lv_iconst (v := (1 : Int32)) hx hb dX6_keep_30 (by decide) ?_
    obtain ⟨hc_23, hf⟩ := gd_some hf
    refine va_iald hx hb hK hw.1 1 0 rfl rfl (inB_in hc_23) dX6_keep_31 ?_
    obtain ⟨coins_24, e_coins_24, hf⟩ := bnd_some hf
    refine lv_nmi e_coins_24 ?_
    refine va_put (ci := 5) (v := .int coins_24) (ty := .int) (C := RX5) (T := TX5) (N := 10) hx hb hts in_X6_keep_X5 tyX5 tyX5_ok nmX5 hown hK hw.1 hw.2.1 hw.2.2 2 rfl rfl 3 (by decide) (hts _ lk_X6_keep_12) (fun _ h9 => h9) rfl (by decide +kernel) rfl rfl (Nat.le_of_ble_eq_true rfl) dX6_keep_32 (fun H locs hP hD hS => ?_)
    have hw : Wo D A s [(oX6 a_pr (.ref a_read) (.ref a_tape) (.ref a_pr_values) (.int (1 : Int32))), (a_pr_values, .inl (cI, 4, .inl pr_values)), (oX5 a_read (.int read_gloves) (.int read_matters) (.int pride_22) (.int coins_24) (.ref a_read_house) (.ref a_read_free) (.ref a_read_stuffed) (.ref a_read_after) (.ref a_read_weight) (.ref a_read_need)), (a_read_house, .inl (cI, 6, .inl read_house)), (a_read_free, .inl (cI, 6, .inl read_free)), (a_read_stuffed, .inl (cI, 6, .inl read_stuffed)), (a_read_after, .inl (cI, 6, .inl read_after)), (a_read_weight, .inl (cI, 5, .inl read_weight)), (a_read_need, .inl (cI, 5, .inl read_need))] H locs := ⟨hP, hD, hS⟩
    refine lv_goto (tgt := 198) hx hb dX6_keep_35 (by decide) ?_
    cases hf
    exact retV C hw dX6_keep_198
set_option maxHeartbeats 4000000 in
set_option maxRecDepth 100000 in
theorem k_X6_keep {l : Launch} {sx : List sx_T} {D : va_G} {cI cZ cO : ClassId} (a_pr : Nat) (a_read : Nat) (a_tape : Nat) (a_pr_values : Nat) (a_read_house : Nat) (a_read_free : Nat) (a_read_stuffed : Nat) (a_read_after : Nat) (a_read_weight : Nat) (a_read_need : Nat) (pr_values : Nat → Int32) (o_pr_ruled : Int32) (o_read_gloves : Int32) (o_read_matters : Int32) (o_read_pride : Int32) (o_read_coins : Int32) (o_read_house : Nat → Int32) (o_read_free : Nat → Int32) (o_read_stuffed : Nat → Int32) (o_read_after : Nat → Int32) (o_read_weight : Nat → Int32) (o_read_need : Nat → Int32) (pr_ruled : Int32) (read_gloves : Int32) (read_matters : Int32) (read_pride : Int32) (read_coins : Int32) (read_house : Nat → Int32) (read_free : Nat → Int32) (read_stuffed : Nat → Int32) (read_after : Nat → Int32) (read_weight : Nat → Int32) (read_need : Nat → Int32) (p1 : Int32) (hF : f_X6_keep pr_values pr_ruled read_gloves read_matters read_pride read_coins read_house read_free read_stuffed read_after read_weight read_need p1 = some (o_pr_ruled, o_read_gloves, o_read_matters, o_read_pride, o_read_coins, o_read_house, o_read_free, o_read_stuffed, o_read_after, o_read_weight, o_read_need)) : CtV l yX6_keep wsX6_keep rm_X6_keep sx D (tyL cI cZ cO) [.ref a_pr, .int p1] [(oX6 a_pr (.ref a_read) (.ref a_tape) (.ref a_pr_values) (.int pr_ruled)), (a_pr_values, .inl (cI, 4, .inl pr_values)), (oX5 a_read (.int read_gloves) (.int read_matters) (.int read_pride) (.int read_coins) (.ref a_read_house) (.ref a_read_free) (.ref a_read_stuffed) (.ref a_read_after) (.ref a_read_weight) (.ref a_read_need)), (a_read_house, .inl (cI, 6, .inl read_house)), (a_read_free, .inl (cI, 6, .inl read_free)), (a_read_stuffed, .inl (cI, 6, .inl read_stuffed)), (a_read_after, .inl (cI, 6, .inl read_after)), (a_read_weight, .inl (cI, 5, .inl read_weight)), (a_read_need, .inl (cI, 5, .inl read_need))] [(oX6 a_pr (.ref a_read) (.ref a_tape) (.ref a_pr_values) (.int o_pr_ruled)), (a_pr_values, .inl (cI, 4, .inl pr_values)), (oX5 a_read (.int o_read_gloves) (.int o_read_matters) (.int o_read_pride) (.int o_read_coins) (.ref a_read_house) (.ref a_read_free) (.ref a_read_stuffed) (.ref a_read_after) (.ref a_read_weight) (.ref a_read_need)), (a_read_house, .inl (cI, 6, .inl o_read_house)), (a_read_free, .inl (cI, 6, .inl o_read_free)), (a_read_stuffed, .inl (cI, 6, .inl o_read_stuffed)), (a_read_after, .inl (cI, 6, .inl o_read_after)), (a_read_weight, .inl (cI, 5, .inl o_read_weight)), (a_read_need, .inl (cI, 5, .inl o_read_need))] := by
  refine ctV_of (cc := cX6_keep) (ret := none) (maxL := 2) (by decide) rfl (Nat.le_of_ble_eq_true rfl) ?_
  intro p e s m below meth c A ls C K hw hl
  exact q_X6_keep_0 C K a_pr a_read a_tape a_pr_values a_read_house a_read_free a_read_stuffed a_read_after a_read_weight a_read_need pr_values o_pr_ruled o_read_gloves o_read_matters o_read_pride o_read_coins o_read_house o_read_free o_read_stuffed o_read_after o_read_weight o_read_need pr_ruled read_gloves read_matters read_pride read_coins read_house read_free read_stuffed read_after read_weight read_need p1 hF hw (lv_sub hl [0, 1] rfl)
abbrev rm_X6_readsClause : Room := { frames := 4, cells := 0, slots := 0, locals := 91 }
theorem in_X6_readsClause_X6 : ∀ w ∈ u_ws RX6 TX6 4, w ∈ wsX6_readsClause := fun w h => List.mem_cons_of_mem _ (bi_wsX60 w h)
theorem in_X6_readsClause_X10 : ∀ w ∈ u_ws RX10 TX10 3, w ∈ wsX6_readsClause := fun w h => List.mem_cons_of_mem _ (bi_wsX100 w h)
theorem lk_X6_readsClause_0 : Cond.fieldLink RX6 22 "GloveHouses$PeaceReader" "tape" "LGloveHouses$Tape;" ∈ wsX6_readsClause := List.mem_cons_of_mem _ (bi_wsL_law0_r4 _ (List.mem_of_getElem? (i := 5) rfl))
theorem lk_X6_readsClause_1 : Cond.initialized RX6 ∈ wsX6_readsClause := List.mem_cons_of_mem _ (bi_wsL_law0_r1 _ (List.mem_of_getElem? (i := 20) rfl))
theorem lk_X6_readsClause_2 : Cond.methodLink RX6 67 yX6_kindOf ∈ wsX6_readsClause := List.mem_cons_of_mem _ (bi_wsL_law0_r10 _ (List.mem_of_getElem? (i := 9) rfl))
theorem lk_X6_readsClause_3 : Cond.static yX6_kindOf ∈ wsX6_readsClause := List.mem_cons_of_mem _ (bi_wsL_law0_r10 _ (List.mem_of_getElem? (i := 10) rfl))
theorem lk_X6_readsClause_4 : Cond.fieldLink RX6 26 "GloveHouses$Tape" "at" "I" ∈ wsX6_readsClause := List.mem_cons_of_mem _ (bi_wsL_law0_r9 _ (List.mem_of_getElem? (i := 17) rfl))
set_option maxHeartbeats 4000000 in
set_option maxRecDepth 100000 in
theorem q_X6_readsClause_0 {p : Program} {l : Launch} {e : Env} {s : State} {m : MethodId} {args : Array Value} {below : List Frame} {meth : Method} {c : Code} {sx : List sx_T} {D : va_G} {cI cZ cO : ClassId} {A : Nat → Prop} (C : Cx p s m args meth c RX6 wsX6_readsClause cX6_readsClause 2 (some .boolean)) (K : Kx sx D (tyL cI cZ cO) A s) (a_tape : Nat) (a_tape_bytes : Nat) (a_pr : Nat) (a_read : Nat) (a_pr_values : Nat) (a_read_house : Nat) (a_read_free : Nat) (a_read_stuffed : Nat) (a_read_after : Nat) (a_read_weight : Nat) (a_read_need : Nat) (b_plT : Nat) (plT : Nat → Int32) (b_pmT : Nat) (pmT : Nat → Int32) (b_puT : Nat) (puT : Nat → Int32) (tape_length : Int32) (tape_bytes : Nat → Int32) (r0 : Int32) (o_tape_at : Int32) (o_pr_ruled : Int32) (o_pr_values : Nat → Int32) (o_read_gloves : Int32) (o_read_matters : Int32) (o_read_pride : Int32) (o_read_coins : Int32) (o_read_house : Nat → Int32) (o_read_free : Nat → Int32) (o_read_stuffed : Nat → Int32) (o_read_after : Nat → Int32) (o_read_weight : Nat → Int32) (o_read_need : Nat → Int32) (hs_plT : (("GloveHouses$PeaceReader", "LETTERS", "[C", b_plT, .char, 12, plT) : sx_T) ∈ sx) (hs_pmT : (("GloveHouses$PeaceReader", "MOST", "[I", b_pmT, .int, 12, pmT) : sx_T) ∈ sx) (hs_puT : (("GloveHouses$PeaceReader", "USUAL", "[I", b_puT, .int, 12, puT) : sx_T) ∈ sx)   (tape_at : Int32) (pr_ruled : Int32) (pr_values : Nat → Int32) (read_gloves : Int32) (read_matters : Int32) (read_pride : Int32) (read_coins : Int32) (read_house : Nat → Int32) (read_free : Nat → Int32) (read_stuffed : Nat → Int32) (read_after : Nat → Int32) (read_weight : Nat → Int32) (read_need : Nat → Int32) {H : Heap} {locs : List Loc} {ls : Array Slot} (hf : b_X6_readsClause_0 tape_length tape_bytes plT pmT puT  tape_at pr_ruled pr_values read_gloves read_matters read_pride read_coins read_house read_free read_stuffed read_after read_weight read_need = some (r0, o_tape_at, o_pr_ruled, o_pr_values, o_read_gloves, o_read_matters, o_read_pride, o_read_coins, o_read_house, o_read_free, o_read_stuffed, o_read_after, o_read_weight, o_read_need)) (hw : Wo D A s [(oX10 a_tape (.ref a_tape_bytes) (.int tape_length) (.int tape_at)), (a_tape_bytes, .inl (cI, 240, .inl tape_bytes)), (oX6 a_pr (.ref a_read) (.ref a_tape) (.ref a_pr_values) (.int pr_ruled)), (a_pr_values, .inl (cI, 4, .inl pr_values)), (oX5 a_read (.int read_gloves) (.int read_matters) (.int read_pride) (.int read_coins) (.ref a_read_house) (.ref a_read_free) (.ref a_read_stuffed) (.ref a_read_after) (.ref a_read_weight) (.ref a_read_need)), (a_read_house, .inl (cI, 6, .inl read_house)), (a_read_free, .inl (cI, 6, .inl read_free)), (a_read_stuffed, .inl (cI, 6, .inl read_stuffed)), (a_read_after, .inl (cI, 6, .inl read_after)), (a_read_weight, .inl (cI, 5, .inl read_weight)), (a_read_need, .inl (cI, 5, .inl read_need))] H locs) (hl : lv_has ls 2 [(0, .ref a_pr)]) : W p l e rm_X6_readsClause s m args below meth c H locs 0 0 (MQ below (QcI D A r0 [(oX10 a_tape (.ref a_tape_bytes) (.int tape_length) (.int o_tape_at)), (a_tape_bytes, .inl (cI, 240, .inl tape_bytes)), (oX6 a_pr (.ref a_read) (.ref a_tape) (.ref a_pr_values) (.int o_pr_ruled)), (a_pr_values, .inl (cI, 4, .inl o_pr_values)), (oX5 a_read (.int o_read_gloves) (.int o_read_matters) (.int o_read_pride) (.int o_read_coins) (.ref a_read_house) (.ref a_read_free) (.ref a_read_stuffed) (.ref a_read_after) (.ref a_read_weight) (.ref a_read_need)), (a_read_house, .inl (cI, 6, .inl o_read_house)), (a_read_free, .inl (cI, 6, .inl o_read_free)), (a_read_stuffed, .inl (cI, 6, .inl o_read_stuffed)), (a_read_after, .inl (cI, 6, .inl o_read_after)), (a_read_weight, .inl (cI, 5, .inl o_read_weight)), (a_read_need, .inl (cI, 5, .inl o_read_need))]) args s 0 0 A) (F0 m 0 ls []) := by
  obtain ⟨hx, hb, hml, hown, hts, hr, hlk⟩ := id C
  obtain ⟨hK, hX, hA⟩ := id K
  unfold b_X6_readsClause_0 at hf
  refine lv_aload_n hx hb dX6_readsClause_0 rfl (lv_at hl 0 rfl) ?_
  refine va_get (ci := 6) (v := .ref a_tape) (C := RX6) (T := TX6) (N := 4) hx hb hts in_X6_readsClause_X6 hown hK hw.1 2 rfl rfl 1 (by decide) (hts _ lk_X6_readsClause_0) (fun _ h9 => h9) rfl dX6_readsClause_1 ?_
  obtain ⟨r_1, tape_at_2, hg_3, hf⟩ := ob2_some hf
  refine cl_ViA (As := []) (rest := []) C K hw (k_X10_sign a_tape a_tape_bytes tape_length tape_bytes r_1 tape_at_2 tape_at hg_3) [0, 1] rfl (by decide) rfl rfl (ci := 10) (j := 0) rfl rfl (cwV 0 hts gX6_readsClause_X10_sign rfl rfl rfl (by decide +kernel) ⟨Nat.le_of_ble_eq_true rfl, Nat.le_of_ble_eq_true rfl⟩) rfl hl rfl (Nat.le_of_ble_eq_true rfl) dX6_readsClause_4 ⟨Nat.zero_le _, Nat.zero_le _⟩ (fun H locs hw => ?_)
  have hw : Wo D A s [(oX10 a_tape (.ref a_tape_bytes) (.int tape_length) (.int tape_at_2)), (a_tape_bytes, .inl (cI, 240, .inl tape_bytes)), (oX6 a_pr (.ref a_read) (.ref a_tape) (.ref a_pr_values) (.int pr_ruled)), (a_pr_values, .inl (cI, 4, .inl pr_values)), (oX5 a_read (.int read_gloves) (.int read_matters) (.int read_pride) (.int read_coins) (.ref a_read_house) (.ref a_read_free) (.ref a_read_stuffed) (.ref a_read_after) (.ref a_read_weight) (.ref a_read_need)), (a_read_house, .inl (cI, 6, .inl read_house)), (a_read_free, .inl (cI, 6, .inl read_free)), (a_read_stuffed, .inl (cI, 6, .inl read_stuffed)), (a_read_after, .inl (cI, 6, .inl read_after)), (a_read_weight, .inl (cI, 5, .inl read_weight)), (a_read_need, .inl (cI, 5, .inl read_need))] H locs := hw
  obtain ⟨r_4, hg_5, hf⟩ := ob1_some hf
  refine cl_SiA (As := [.int r_1]) (rest := []) C K hw (k_X6_kindOf r_4 r_1 hg_5) [] rfl (by decide) rfl rfl ⟨callB_of 1 hts (fun w h => gX6_readsClause_X6_kindOf w (List.mem_append_right _ h)) rfl rfl rfl (hts _ lk_X6_readsClause_1) (hts _ lk_X6_readsClause_2) (by decide +kernel) ⟨Nat.le_of_ble_eq_true rfl, Nat.le_of_ble_eq_true rfl⟩, hts _ lk_X6_readsClause_3⟩ rfl hl rfl (Nat.le_of_ble_eq_true rfl) dX6_readsClause_7 ⟨Nat.zero_le _, Nat.zero_le _⟩ (fun H locs hw => ?_)
  have hw : Wo D A s [(oX10 a_tape (.ref a_tape_bytes) (.int tape_length) (.int tape_at_2)), (a_tape_bytes, .inl (cI, 240, .inl tape_bytes)), (oX6 a_pr (.ref a_read) (.ref a_tape) (.ref a_pr_values) (.int pr_ruled)), (a_pr_values, .inl (cI, 4, .inl pr_values)), (oX5 a_read (.int read_gloves) (.int read_matters) (.int read_pride) (.int read_coins) (.ref a_read_house) (.ref a_read_free) (.ref a_read_stuffed) (.ref a_read_after) (.ref a_read_weight) (.ref a_read_need)), (a_read_house, .inl (cI, 6, .inl read_house)), (a_read_free, .inl (cI, 6, .inl read_free)), (a_read_stuffed, .inl (cI, 6, .inl read_stuffed)), (a_read_after, .inl (cI, 6, .inl read_after)), (a_read_weight, .inl (cI, 5, .inl read_weight)), (a_read_need, .inl (cI, 5, .inl read_need))] H locs := hw
  refine lv_istore_n (lv' := [(1, .int r_4), (0, .ref a_pr)]) hx hb dX6_readsClause_10 rfl hl (by decide) rfl (fun ls hl => ?_)
  refine lv_iload_n hx hb dX6_readsClause_11 rfl (lv_at hl 0 rfl) ?_
  refine lv_iconst (v := (-1 : Int32)) hx hb dX6_readsClause_12 (by decide) ?_
  refine lv_icmp_eq (tgt := 24) hx hb dX6_readsClause_13 (by decide) (fun hc => ?_) (fun hc => ?_)
  · have hf := (if_pos hc).symm.trans hf
    refine lv_iconst (v := (0 : Int32)) hx hb dX6_readsClause_24 (by decide) ?_
    cases hf
    exact retZ C hw dX6_readsClause_25 (by decide) rfl
  · have hf := (if_neg hc).symm.trans hf
    refine lv_aload_n hx hb dX6_readsClause_16 rfl (lv_at hl 1 rfl) ?_
    refine lv_iload_n hx hb dX6_readsClause_17 rfl (lv_at hl 0 rfl) ?_
    obtain ⟨r_6, hg_7, hf⟩ := ob1_some hf
    refine cl_ViA (As := [.int r_4]) (rest := []) C K hw (k_X6_isTooMany a_pr a_read a_tape a_pr_values a_read_house a_read_free a_read_stuffed a_read_after a_read_weight a_read_need pr_ruled read_gloves read_matters read_pride read_coins r_6 r_4 hg_7) [2, 4] rfl (by decide) rfl rfl (ci := 6) (j := 2) rfl rfl (cwV 1 hts gX6_readsClause_X6_isTooMany rfl rfl rfl (by decide +kernel) ⟨Nat.le_of_ble_eq_true rfl, Nat.le_of_ble_eq_true rfl⟩) rfl hl rfl (Nat.le_of_ble_eq_true rfl) dX6_readsClause_18 ⟨Nat.zero_le _, Nat.zero_le _⟩ (fun H locs hw => ?_)
    have hw : Wo D A s [(oX10 a_tape (.ref a_tape_bytes) (.int tape_length) (.int tape_at_2)), (a_tape_bytes, .inl (cI, 240, .inl tape_bytes)), (oX6 a_pr (.ref a_read) (.ref a_tape) (.ref a_pr_values) (.int pr_ruled)), (a_pr_values, .inl (cI, 4, .inl pr_values)), (oX5 a_read (.int read_gloves) (.int read_matters) (.int read_pride) (.int read_coins) (.ref a_read_house) (.ref a_read_free) (.ref a_read_stuffed) (.ref a_read_after) (.ref a_read_weight) (.ref a_read_need)), (a_read_house, .inl (cI, 6, .inl read_house)), (a_read_free, .inl (cI, 6, .inl read_free)), (a_read_stuffed, .inl (cI, 6, .inl read_stuffed)), (a_read_after, .inl (cI, 6, .inl read_after)), (a_read_weight, .inl (cI, 5, .inl read_weight)), (a_read_need, .inl (cI, 5, .inl read_need))] H locs := hw
    refine lv_if_eq (tgt := 26) hx hb dX6_readsClause_21 (by decide) (fun hc => ?_) (fun hc => ?_)
    · have hf := (if_pos hc).symm.trans hf
      refine lv_aload_n hx hb dX6_readsClause_26 rfl (lv_at hl 1 rfl) ?_
      refine va_get (ci := 6) (v := .ref a_tape) (C := RX6) (T := TX6) (N := 4) hx hb hts in_X6_readsClause_X6 hown hK hw.1 2 rfl rfl 1 (by decide) (hts _ lk_X6_readsClause_0) (fun _ h9 => h9) rfl dX6_readsClause_27 ?_
      refine lv_dup hx hb dX6_readsClause_30 rfl ?_
      refine va_get (ci := 10) (v := .int tape_at_2) (C := RX10) (T := TX10) (N := 3) hx hb hts in_X6_readsClause_X10 hown hK hw.1 0 rfl rfl 2 (by decide) (hts _ lk_X6_readsClause_4) (fun _ h9 => h9) rfl dX6_readsClause_31 ?_
      refine lv_iconst (v := (1 : Int32)) hx hb dX6_readsClause_34 (by decide) ?_
      refine lv_iadd hx hb dX6_readsClause_35 ?_
      obtain ⟨at_8, e_at_8, hf⟩ := bnd_some hf
      refine lv_nmi e_at_8 ?_
      refine va_put (ci := 10) (v := .int at_8) (ty := .int) (C := RX10) (T := TX10) (N := 3) hx hb hts in_X6_readsClause_X10 tyX10 tyX10_ok nmX10 hown hK hw.1 hw.2.1 hw.2.2 0 rfl rfl 2 (by decide) (hts _ lk_X6_readsClause_4) (fun _ h9 => h9) rfl (by decide +kernel) rfl rfl (Nat.le_of_ble_eq_true rfl) dX6_readsClause_36 (fun H locs hP hD hS => ?_)
      have hw : Wo D A s [(oX10 a_tape (.ref a_tape_bytes) (.int tape_length) (.int at_8)), (a_tape_bytes, .inl (cI, 240, .inl tape_bytes)), (oX6 a_pr (.ref a_read) (.ref a_tape) (.ref a_pr_values) (.int pr_ruled)), (a_pr_values, .inl (cI, 4, .inl pr_values)), (oX5 a_read (.int read_gloves) (.int read_matters) (.int read_pride) (.int read_coins) (.ref a_read_house) (.ref a_read_free) (.ref a_read_stuffed) (.ref a_read_after) (.ref a_read_weight) (.ref a_read_need)), (a_read_house, .inl (cI, 6, .inl read_house)), (a_read_free, .inl (cI, 6, .inl read_free)), (a_read_stuffed, .inl (cI, 6, .inl read_stuffed)), (a_read_after, .inl (cI, 6, .inl read_after)), (a_read_weight, .inl (cI, 5, .inl read_weight)), (a_read_need, .inl (cI, 5, .inl read_need))] H locs := ⟨hP, hD, hS⟩
      refine lv_aload_n hx hb dX6_readsClause_39 rfl (lv_at hl 1 rfl) ?_
      refine lv_iload_n hx hb dX6_readsClause_40 rfl (lv_at hl 0 rfl) ?_
      obtain ⟨r_9, tape_at_10, pr_values_11, hg_12, hf⟩ := ob3_some hf
      refine cl_ViA (As := [.int r_4]) (rest := []) C K hw (k_X6_readsItems a_tape a_tape_bytes a_pr a_read a_pr_values b_plT plT b_pmT pmT b_puT puT tape_length tape_bytes pr_ruled r_9 tape_at_10 pr_values_11 at_8 pr_values r_4 hs_plT hs_pmT hs_puT hg_12) [0, 1, 2, 3] rfl (by decide) rfl rfl (ci := 6) (j := 2) rfl rfl (cwV 1 hts gX6_readsClause_X6_readsItems rfl rfl rfl (by decide +kernel) ⟨Nat.le_of_ble_eq_true rfl, Nat.le_of_ble_eq_true rfl⟩) rfl hl rfl (Nat.le_of_ble_eq_true rfl) dX6_readsClause_41 ⟨Nat.zero_le _, Nat.zero_le _⟩ (fun H locs hw => ?_)
      have hw : Wo D A s [(oX10 a_tape (.ref a_tape_bytes) (.int tape_length) (.int tape_at_10)), (a_tape_bytes, .inl (cI, 240, .inl tape_bytes)), (oX6 a_pr (.ref a_read) (.ref a_tape) (.ref a_pr_values) (.int pr_ruled)), (a_pr_values, .inl (cI, 4, .inl pr_values_11)), (oX5 a_read (.int read_gloves) (.int read_matters) (.int read_pride) (.int read_coins) (.ref a_read_house) (.ref a_read_free) (.ref a_read_stuffed) (.ref a_read_after) (.ref a_read_weight) (.ref a_read_need)), (a_read_house, .inl (cI, 6, .inl read_house)), (a_read_free, .inl (cI, 6, .inl read_free)), (a_read_stuffed, .inl (cI, 6, .inl read_stuffed)), (a_read_after, .inl (cI, 6, .inl read_after)), (a_read_weight, .inl (cI, 5, .inl read_weight)), (a_read_need, .inl (cI, 5, .inl read_need))] H locs := hw
      refine lv_if_ne (tgt := 49) hx hb dX6_readsClause_44 (by decide) (fun hc => ?_) (fun hc => ?_)
      · have hf := (if_neg hc).symm.trans hf
        refine lv_aload_n hx hb dX6_readsClause_49 rfl (lv_at hl 1 rfl) ?_
        refine lv_iload_n hx hb dX6_readsClause_50 rfl (lv_at hl 0 rfl) ?_
        obtain ⟨pr_ruled_13, read_gloves_14, read_matters_15, read_pride_16, read_coins_17, read_house_18, read_free_19, read_stuffed_20, read_after_21, read_weight_22, read_need_23, hg_24, hf⟩ := ob11_some hf
        refine cl_VvA (As := [.int r_4]) (rest := []) C K hw (k_X6_keep a_pr a_read a_tape a_pr_values a_read_house a_read_free a_read_stuffed a_read_after a_read_weight a_read_need pr_values_11 pr_ruled_13 read_gloves_14 read_matters_15 read_pride_16 read_coins_17 read_house_18 read_free_19 read_stuffed_20 read_after_21 read_weight_22 read_need_23 pr_ruled read_gloves read_matters read_pride read_coins read_house read_free read_stuffed read_after read_weight read_need r_4 hg_24) [2, 3, 4, 5, 6, 7, 8, 9, 10] rfl (by decide) rfl rfl (ci := 6) (j := 2) rfl rfl (cwV 1 hts gX6_readsClause_X6_keep rfl rfl rfl (by decide +kernel) ⟨Nat.le_of_ble_eq_true rfl, Nat.le_of_ble_eq_true rfl⟩) rfl hl rfl (Nat.le_of_ble_eq_true rfl) dX6_readsClause_51 ⟨Nat.zero_le _, Nat.zero_le _⟩ (fun H locs hw => ?_)
        have hw : Wo D A s [(oX10 a_tape (.ref a_tape_bytes) (.int tape_length) (.int tape_at_10)), (a_tape_bytes, .inl (cI, 240, .inl tape_bytes)), (oX6 a_pr (.ref a_read) (.ref a_tape) (.ref a_pr_values) (.int pr_ruled_13)), (a_pr_values, .inl (cI, 4, .inl pr_values_11)), (oX5 a_read (.int read_gloves_14) (.int read_matters_15) (.int read_pride_16) (.int read_coins_17) (.ref a_read_house) (.ref a_read_free) (.ref a_read_stuffed) (.ref a_read_after) (.ref a_read_weight) (.ref a_read_need)), (a_read_house, .inl (cI, 6, .inl read_house_18)), (a_read_free, .inl (cI, 6, .inl read_free_19)), (a_read_stuffed, .inl (cI, 6, .inl read_stuffed_20)), (a_read_after, .inl (cI, 6, .inl read_after_21)), (a_read_weight, .inl (cI, 5, .inl read_weight_22)), (a_read_need, .inl (cI, 5, .inl read_need_23))] H locs := hw
        refine lv_iconst (v := (1 : Int32)) hx hb dX6_readsClause_54 (by decide) ?_
        cases hf
        exact retZ C hw dX6_readsClause_55 (by decide) rfl
      · have hf := (if_pos hc).symm.trans hf
        refine lv_iconst (v := (0 : Int32)) hx hb dX6_readsClause_47 (by decide) ?_
        cases hf
        exact retZ C hw dX6_readsClause_48 (by decide) rfl
    · have hf := (if_neg hc).symm.trans hf
      refine lv_iconst (v := (0 : Int32)) hx hb dX6_readsClause_24 (by decide) ?_
      cases hf
      exact retZ C hw dX6_readsClause_25 (by decide) rfl
set_option maxHeartbeats 4000000 in
set_option maxRecDepth 100000 in
theorem k_X6_readsClause {l : Launch} {sx : List sx_T} {D : va_G} {cI cZ cO : ClassId} (a_tape : Nat) (a_tape_bytes : Nat) (a_pr : Nat) (a_read : Nat) (a_pr_values : Nat) (a_read_house : Nat) (a_read_free : Nat) (a_read_stuffed : Nat) (a_read_after : Nat) (a_read_weight : Nat) (a_read_need : Nat) (b_plT : Nat) (plT : Nat → Int32) (b_pmT : Nat) (pmT : Nat → Int32) (b_puT : Nat) (puT : Nat → Int32) (tape_length : Int32) (tape_bytes : Nat → Int32) (r0 : Int32) (o_tape_at : Int32) (o_pr_ruled : Int32) (o_pr_values : Nat → Int32) (o_read_gloves : Int32) (o_read_matters : Int32) (o_read_pride : Int32) (o_read_coins : Int32) (o_read_house : Nat → Int32) (o_read_free : Nat → Int32) (o_read_stuffed : Nat → Int32) (o_read_after : Nat → Int32) (o_read_weight : Nat → Int32) (o_read_need : Nat → Int32) (tape_at : Int32) (pr_ruled : Int32) (pr_values : Nat → Int32) (read_gloves : Int32) (read_matters : Int32) (read_pride : Int32) (read_coins : Int32) (read_house : Nat → Int32) (read_free : Nat → Int32) (read_stuffed : Nat → Int32) (read_after : Nat → Int32) (read_weight : Nat → Int32) (read_need : Nat → Int32) (hs_plT : (("GloveHouses$PeaceReader", "LETTERS", "[C", b_plT, .char, 12, plT) : sx_T) ∈ sx) (hs_pmT : (("GloveHouses$PeaceReader", "MOST", "[I", b_pmT, .int, 12, pmT) : sx_T) ∈ sx) (hs_puT : (("GloveHouses$PeaceReader", "USUAL", "[I", b_puT, .int, 12, puT) : sx_T) ∈ sx) (hF : f_X6_readsClause tape_length tape_bytes plT pmT puT tape_at pr_ruled pr_values read_gloves read_matters read_pride read_coins read_house read_free read_stuffed read_after read_weight read_need = some (r0, o_tape_at, o_pr_ruled, o_pr_values, o_read_gloves, o_read_matters, o_read_pride, o_read_coins, o_read_house, o_read_free, o_read_stuffed, o_read_after, o_read_weight, o_read_need)) : CtI l yX6_readsClause wsX6_readsClause rm_X6_readsClause sx D (tyL cI cZ cO) [.ref a_pr] [(oX10 a_tape (.ref a_tape_bytes) (.int tape_length) (.int tape_at)), (a_tape_bytes, .inl (cI, 240, .inl tape_bytes)), (oX6 a_pr (.ref a_read) (.ref a_tape) (.ref a_pr_values) (.int pr_ruled)), (a_pr_values, .inl (cI, 4, .inl pr_values)), (oX5 a_read (.int read_gloves) (.int read_matters) (.int read_pride) (.int read_coins) (.ref a_read_house) (.ref a_read_free) (.ref a_read_stuffed) (.ref a_read_after) (.ref a_read_weight) (.ref a_read_need)), (a_read_house, .inl (cI, 6, .inl read_house)), (a_read_free, .inl (cI, 6, .inl read_free)), (a_read_stuffed, .inl (cI, 6, .inl read_stuffed)), (a_read_after, .inl (cI, 6, .inl read_after)), (a_read_weight, .inl (cI, 5, .inl read_weight)), (a_read_need, .inl (cI, 5, .inl read_need))] r0 [(oX10 a_tape (.ref a_tape_bytes) (.int tape_length) (.int o_tape_at)), (a_tape_bytes, .inl (cI, 240, .inl tape_bytes)), (oX6 a_pr (.ref a_read) (.ref a_tape) (.ref a_pr_values) (.int o_pr_ruled)), (a_pr_values, .inl (cI, 4, .inl o_pr_values)), (oX5 a_read (.int o_read_gloves) (.int o_read_matters) (.int o_read_pride) (.int o_read_coins) (.ref a_read_house) (.ref a_read_free) (.ref a_read_stuffed) (.ref a_read_after) (.ref a_read_weight) (.ref a_read_need)), (a_read_house, .inl (cI, 6, .inl o_read_house)), (a_read_free, .inl (cI, 6, .inl o_read_free)), (a_read_stuffed, .inl (cI, 6, .inl o_read_stuffed)), (a_read_after, .inl (cI, 6, .inl o_read_after)), (a_read_weight, .inl (cI, 5, .inl o_read_weight)), (a_read_need, .inl (cI, 5, .inl o_read_need))] := by
  refine ctI_of (cc := cX6_readsClause) (ret := (some .boolean)) (maxL := 2) (by decide) rfl (Nat.le_of_ble_eq_true rfl) ?_
  intro p e s m below meth c A ls C K hw hl
  exact q_X6_readsClause_0 C K a_tape a_tape_bytes a_pr a_read a_pr_values a_read_house a_read_free a_read_stuffed a_read_after a_read_weight a_read_need b_plT plT b_pmT pmT b_puT puT tape_length tape_bytes r0 o_tape_at o_pr_ruled o_pr_values o_read_gloves o_read_matters o_read_pride o_read_coins o_read_house o_read_free o_read_stuffed o_read_after o_read_weight o_read_need hs_plT hs_pmT hs_puT tape_at pr_ruled pr_values read_gloves read_matters read_pride read_coins read_house read_free read_stuffed read_after read_weight read_need hF hw (lv_sub hl [0] rfl)
abbrev rm_X6_readsAll : Room := { frames := 5, cells := 0, slots := 0, locals := 112 }
theorem in_X6_readsAll_X6 : ∀ w ∈ u_ws RX6 TX6 4, w ∈ wsX6_readsAll := fun w h => List.mem_cons_of_mem _ (bi_wsX60 w h)
theorem in_X6_readsAll_X10 : ∀ w ∈ u_ws RX10 TX10 3, w ∈ wsX6_readsAll := fun w h => List.mem_cons_of_mem _ (bi_wsX100 w h)
theorem in_X6_readsAll_X5 : ∀ w ∈ u_ws RX5 TX5 10, w ∈ wsX6_readsAll := fun w h => List.mem_cons_of_mem _ (bi_wsX50 w h)
theorem lk_X6_readsAll_0 : Cond.fieldLink RX6 22 "GloveHouses$PeaceReader" "tape" "LGloveHouses$Tape;" ∈ wsX6_readsAll := List.mem_cons_of_mem _ (bi_wsL_law0_r4 _ (List.mem_of_getElem? (i := 5) rfl))
theorem lk_X6_readsAll_1 : Cond.fieldLink RX6 26 "GloveHouses$Tape" "at" "I" ∈ wsX6_readsAll := List.mem_cons_of_mem _ (bi_wsL_law0_r9 _ (List.mem_of_getElem? (i := 17) rfl))
theorem lk_X6_readsAll_2 : Cond.fieldLink RX6 32 "GloveHouses$PeaceReader" "ruled" "Z" ∈ wsX6_readsAll := List.mem_cons_of_mem _ (bi_wsL_law0_r9 _ (List.mem_of_getElem? (i := 18) rfl))
theorem lk_X6_readsAll_3 : Cond.fieldLink RX6 12 "GloveHouses$PeaceReader" "read" "LGloveHouses$Peace;" ∈ wsX6_readsAll := List.mem_cons_of_mem _ (bi_wsL_law0_r4 _ (List.mem_of_getElem? (i := 3) rfl))
theorem lk_X6_readsAll_4 : Cond.fieldLink RX6 36 "GloveHouses$Peace" "gloves" "I" ∈ wsX6_readsAll := List.mem_cons_of_mem _ (bi_wsL_law0_r9 _ (List.mem_of_getElem? (i := 19) rfl))
theorem lk_X6_readsAll_5 : Cond.fieldLink RX6 39 "GloveHouses$Peace" "matters" "I" ∈ wsX6_readsAll := List.mem_cons_of_mem _ (bi_wsL_law0_r9 _ (List.mem_of_getElem? (i := 20) rfl))
theorem lk_X6_readsAll_6 : Cond.fieldLink RX6 42 "GloveHouses$PeaceReader" "USUAL" "[I" ∈ wsX6_readsAll := List.mem_cons_of_mem _ (bi_wsL_law0_r9 _ (List.mem_of_getElem? (i := 21) rfl))
theorem lk_X6_readsAll_7 : Cond.fieldLink RX6 45 "GloveHouses$Peace" "pride" "I" ∈ wsX6_readsAll := List.mem_cons_of_mem _ (bi_wsL_law0_r9 _ (List.mem_of_getElem? (i := 22) rfl))
theorem lk_X6_readsAll_8 : Cond.fieldLink RX6 48 "GloveHouses$Peace" "coins" "I" ∈ wsX6_readsAll := List.mem_cons_of_mem _ (bi_wsL_law0_r9 _ (List.mem_of_getElem? (i := 23) rfl))
set_option maxHeartbeats 4000000 in
set_option maxRecDepth 100000 in
theorem q_X6_readsAll_55 {p : Program} {l : Launch} {e : Env} {s : State} {m : MethodId} {args : Array Value} {below : List Frame} {meth : Method} {c : Code} {sx : List sx_T} {D : va_G} {cI cZ cO : ClassId} {A : Nat → Prop} (C : Cx p s m args meth c RX6 wsX6_readsAll cX6_readsAll 2 (some .boolean)) (K : Kx sx D (tyL cI cZ cO) A s) (a_tape : Nat) (a_tape_bytes : Nat) (a_pr : Nat) (a_read : Nat) (a_pr_values : Nat) (a_read_house : Nat) (a_read_free : Nat) (a_read_stuffed : Nat) (a_read_after : Nat) (a_read_weight : Nat) (a_read_need : Nat) (b_plT : Nat) (plT : Nat → Int32) (b_pmT : Nat) (pmT : Nat → Int32) (b_puT : Nat) (puT : Nat → Int32) (tape_length : Int32) (tape_bytes : Nat → Int32) (r0 : Int32) (o_tape_at : Int32) (o_pr_ruled : Int32) (o_pr_values : Nat → Int32) (o_read_gloves : Int32) (o_read_matters : Int32) (o_read_pride : Int32) (o_read_coins : Int32) (o_read_house : Nat → Int32) (o_read_free : Nat → Int32) (o_read_stuffed : Nat → Int32) (o_read_after : Nat → Int32) (o_read_weight : Nat → Int32) (o_read_need : Nat → Int32) (hs_plT : (("GloveHouses$PeaceReader", "LETTERS", "[C", b_plT, .char, 12, plT) : sx_T) ∈ sx) (hs_pmT : (("GloveHouses$PeaceReader", "MOST", "[I", b_pmT, .int, 12, pmT) : sx_T) ∈ sx) (hs_puT : (("GloveHouses$PeaceReader", "USUAL", "[I", b_puT, .int, 12, puT) : sx_T) ∈ sx)  (k55 : Int32 → Int32 → (Nat → Int32) → Int32 → Int32 → Int32 → Int32 → (Nat → Int32) → (Nat → Int32) → (Nat → Int32) → (Nat → Int32) → (Nat → Int32) → (Nat → Int32) → Int32 → Option (Int32 × Int32 × Int32 × (Nat → Int32) × Int32 × Int32 × Int32 × Int32 × (Nat → Int32) × (Nat → Int32) × (Nat → Int32) × (Nat → Int32) × (Nat → Int32) × (Nat → Int32))) (hk55 : ∀ (tape_at : Int32) (pr_ruled : Int32) (pr_values : Nat → Int32) (read_gloves : Int32) (read_matters : Int32) (read_pride : Int32) (read_coins : Int32) (read_house : Nat → Int32) (read_free : Nat → Int32) (read_stuffed : Nat → Int32) (read_after : Nat → Int32) (read_weight : Nat → Int32) (read_need : Nat → Int32) (v1 : Int32) (H : Heap) (locs : List Loc) (ls : Array Slot), k55 tape_at pr_ruled pr_values read_gloves read_matters read_pride read_coins read_house read_free read_stuffed read_after read_weight read_need v1 = some (r0, o_tape_at, o_pr_ruled, o_pr_values, o_read_gloves, o_read_matters, o_read_pride, o_read_coins, o_read_house, o_read_free, o_read_stuffed, o_read_after, o_read_weight, o_read_need) → Wo D A s [(oX10 a_tape (.ref a_tape_bytes) (.int tape_length) (.int tape_at)), (a_tape_bytes, .inl (cI, 240, .inl tape_bytes)), (oX6 a_pr (.ref a_read) (.ref a_tape) (.ref a_pr_values) (.int pr_ruled)), (a_pr_values, .inl (cI, 4, .inl pr_values)), (oX5 a_read (.int read_gloves) (.int read_matters) (.int read_pride) (.int read_coins) (.ref a_read_house) (.ref a_read_free) (.ref a_read_stuffed) (.ref a_read_after) (.ref a_read_weight) (.ref a_read_need)), (a_read_house, .inl (cI, 6, .inl read_house)), (a_read_free, .inl (cI, 6, .inl read_free)), (a_read_stuffed, .inl (cI, 6, .inl read_stuffed)), (a_read_after, .inl (cI, 6, .inl read_after)), (a_read_weight, .inl (cI, 5, .inl read_weight)), (a_read_need, .inl (cI, 5, .inl read_need))] H locs → lv_has ls 2 [(0, .ref a_pr), (1, .int v1)] → W p l e rm_X6_readsAll s m args below meth c H locs 0 0 (MQ below (QcI D A r0 [(oX10 a_tape (.ref a_tape_bytes) (.int tape_length) (.int o_tape_at)), (a_tape_bytes, .inl (cI, 240, .inl tape_bytes)), (oX6 a_pr (.ref a_read) (.ref a_tape) (.ref a_pr_values) (.int o_pr_ruled)), (a_pr_values, .inl (cI, 4, .inl o_pr_values)), (oX5 a_read (.int o_read_gloves) (.int o_read_matters) (.int o_read_pride) (.int o_read_coins) (.ref a_read_house) (.ref a_read_free) (.ref a_read_stuffed) (.ref a_read_after) (.ref a_read_weight) (.ref a_read_need)), (a_read_house, .inl (cI, 6, .inl o_read_house)), (a_read_free, .inl (cI, 6, .inl o_read_free)), (a_read_stuffed, .inl (cI, 6, .inl o_read_stuffed)), (a_read_after, .inl (cI, 6, .inl o_read_after)), (a_read_weight, .inl (cI, 5, .inl o_read_weight)), (a_read_need, .inl (cI, 5, .inl o_read_need))]) args s 0 0 A) (F0 m 55 ls [])) (tape_at : Int32) (pr_ruled : Int32) (pr_values : Nat → Int32) (read_gloves : Int32) (read_matters : Int32) (read_pride : Int32) (read_coins : Int32) (read_house : Nat → Int32) (read_free : Nat → Int32) (read_stuffed : Nat → Int32) (read_after : Nat → Int32) (read_weight : Nat → Int32) (read_need : Nat → Int32) (v1 : Int32) {H : Heap} {locs : List Loc} {ls : Array Slot} (hf : b_X6_readsAll_55 tape_length tape_bytes plT pmT puT k55 tape_at pr_ruled pr_values read_gloves read_matters read_pride read_coins read_house read_free read_stuffed read_after read_weight read_need v1 = some (r0, o_tape_at, o_pr_ruled, o_pr_values, o_read_gloves, o_read_matters, o_read_pride, o_read_coins, o_read_house, o_read_free, o_read_stuffed, o_read_after, o_read_weight, o_read_need)) (hw : Wo D A s [(oX10 a_tape (.ref a_tape_bytes) (.int tape_length) (.int tape_at)), (a_tape_bytes, .inl (cI, 240, .inl tape_bytes)), (oX6 a_pr (.ref a_read) (.ref a_tape) (.ref a_pr_values) (.int pr_ruled)), (a_pr_values, .inl (cI, 4, .inl pr_values)), (oX5 a_read (.int read_gloves) (.int read_matters) (.int read_pride) (.int read_coins) (.ref a_read_house) (.ref a_read_free) (.ref a_read_stuffed) (.ref a_read_after) (.ref a_read_weight) (.ref a_read_need)), (a_read_house, .inl (cI, 6, .inl read_house)), (a_read_free, .inl (cI, 6, .inl read_free)), (a_read_stuffed, .inl (cI, 6, .inl read_stuffed)), (a_read_after, .inl (cI, 6, .inl read_after)), (a_read_weight, .inl (cI, 5, .inl read_weight)), (a_read_need, .inl (cI, 5, .inl read_need))] H locs) (hl : lv_has ls 2 [(0, .ref a_pr), (1, .int v1)]) : W p l e rm_X6_readsAll s m args below meth c H locs 0 0 (MQ below (QcI D A r0 [(oX10 a_tape (.ref a_tape_bytes) (.int tape_length) (.int o_tape_at)), (a_tape_bytes, .inl (cI, 240, .inl tape_bytes)), (oX6 a_pr (.ref a_read) (.ref a_tape) (.ref a_pr_values) (.int o_pr_ruled)), (a_pr_values, .inl (cI, 4, .inl o_pr_values)), (oX5 a_read (.int o_read_gloves) (.int o_read_matters) (.int o_read_pride) (.int o_read_coins) (.ref a_read_house) (.ref a_read_free) (.ref a_read_stuffed) (.ref a_read_after) (.ref a_read_weight) (.ref a_read_need)), (a_read_house, .inl (cI, 6, .inl o_read_house)), (a_read_free, .inl (cI, 6, .inl o_read_free)), (a_read_stuffed, .inl (cI, 6, .inl o_read_stuffed)), (a_read_after, .inl (cI, 6, .inl o_read_after)), (a_read_weight, .inl (cI, 5, .inl o_read_weight)), (a_read_need, .inl (cI, 5, .inl o_read_need))]) args s 0 0 A) (F0 m 55 ls []) := by
  obtain ⟨hx, hb, hml, hown, hts, hr, hlk⟩ := id C
  obtain ⟨hK, hX, hA⟩ := id K
  unfold b_X6_readsAll_55 at hf
  refine lv_iload_n hx hb dX6_readsAll_55 rfl (lv_at hl 1 rfl) ?_
  refine lv_sipush (v := (240 : Int32)) hx hb dX6_readsAll_56 (by decide) ?_
  refine lv_icmp_gt (tgt := 130) hx hb dX6_readsAll_59 (by decide) (fun hc => ?_) (fun hc => ?_)
  · have hf := (if_pos hc).symm.trans hf
    refine lv_iconst (v := (0 : Int32)) hx hb dX6_readsAll_130 (by decide) ?_
    clear hk55; cases hf
    exact retZ C hw dX6_readsAll_131 (by decide) rfl
  · have hf := (if_neg hc).symm.trans hf
    refine lv_aload_n hx hb dX6_readsAll_62 rfl (lv_at hl 0 rfl) ?_
    obtain ⟨r_1, tape_at_2, pr_ruled_3, pr_values_4, read_gloves_5, read_matters_6, read_pride_7, read_coins_8, read_house_9, read_free_10, read_stuffed_11, read_after_12, read_weight_13, read_need_14, hg_15, hf⟩ := ob14_some hf
    refine cl_ViA (As := []) (rest := []) C K hw (k_X6_readsClause a_tape a_tape_bytes a_pr a_read a_pr_values a_read_house a_read_free a_read_stuffed a_read_after a_read_weight a_read_need b_plT plT b_pmT pmT b_puT puT tape_length tape_bytes r_1 tape_at_2 pr_ruled_3 pr_values_4 read_gloves_5 read_matters_6 read_pride_7 read_coins_8 read_house_9 read_free_10 read_stuffed_11 read_after_12 read_weight_13 read_need_14 tape_at pr_ruled pr_values read_gloves read_matters read_pride read_coins read_house read_free read_stuffed read_after read_weight read_need hs_plT hs_pmT hs_puT hg_15) [0, 1, 2, 3, 4, 5, 6, 7, 8, 9, 10] rfl (by decide) rfl rfl (ci := 6) (j := 2) rfl rfl (cwV 0 hts gX6_readsAll_X6_readsClause rfl rfl rfl (by decide +kernel) ⟨Nat.le_of_ble_eq_true rfl, Nat.le_of_ble_eq_true rfl⟩) rfl hl rfl (Nat.le_of_ble_eq_true rfl) dX6_readsAll_63 ⟨Nat.zero_le _, Nat.zero_le _⟩ (fun H locs hw => ?_)
    have hw : Wo D A s [(oX10 a_tape (.ref a_tape_bytes) (.int tape_length) (.int tape_at_2)), (a_tape_bytes, .inl (cI, 240, .inl tape_bytes)), (oX6 a_pr (.ref a_read) (.ref a_tape) (.ref a_pr_values) (.int pr_ruled_3)), (a_pr_values, .inl (cI, 4, .inl pr_values_4)), (oX5 a_read (.int read_gloves_5) (.int read_matters_6) (.int read_pride_7) (.int read_coins_8) (.ref a_read_house) (.ref a_read_free) (.ref a_read_stuffed) (.ref a_read_after) (.ref a_read_weight) (.ref a_read_need)), (a_read_house, .inl (cI, 6, .inl read_house_9)), (a_read_free, .inl (cI, 6, .inl read_free_10)), (a_read_stuffed, .inl (cI, 6, .inl read_stuffed_11)), (a_read_after, .inl (cI, 6, .inl read_after_12)), (a_read_weight, .inl (cI, 5, .inl read_weight_13)), (a_read_need, .inl (cI, 5, .inl read_need_14))] H locs := hw
    refine lv_if_ne (tgt := 71) hx hb dX6_readsAll_66 (by decide) (fun hc => ?_) (fun hc => ?_)
    · have hf := (if_neg hc).symm.trans hf
      refine lv_aload_n hx hb dX6_readsAll_71 rfl (lv_at hl 0 rfl) ?_
      refine va_get (ci := 6) (v := .ref a_tape) (C := RX6) (T := TX6) (N := 4) hx hb hts in_X6_readsAll_X6 hown hK hw.1 2 rfl rfl 1 (by decide) (hts _ lk_X6_readsAll_0) (fun _ h9 => h9) rfl dX6_readsAll_72 ?_
      obtain ⟨r_16, tape_at_17, hg_18, hf⟩ := ob2_some hf
      refine cl_ViA (As := []) (rest := []) C K hw (k_X10_sign a_tape a_tape_bytes tape_length tape_bytes r_16 tape_at_17 tape_at_2 hg_18) [0, 1] rfl (by decide) rfl rfl (ci := 10) (j := 0) rfl rfl (cwV 0 hts gX6_readsAll_X10_sign rfl rfl rfl (by decide +kernel) ⟨Nat.le_of_ble_eq_true rfl, Nat.le_of_ble_eq_true rfl⟩) rfl hl rfl (Nat.le_of_ble_eq_true rfl) dX6_readsAll_75 ⟨Nat.zero_le _, Nat.zero_le _⟩ (fun H locs hw => ?_)
      have hw : Wo D A s [(oX10 a_tape (.ref a_tape_bytes) (.int tape_length) (.int tape_at_17)), (a_tape_bytes, .inl (cI, 240, .inl tape_bytes)), (oX6 a_pr (.ref a_read) (.ref a_tape) (.ref a_pr_values) (.int pr_ruled_3)), (a_pr_values, .inl (cI, 4, .inl pr_values_4)), (oX5 a_read (.int read_gloves_5) (.int read_matters_6) (.int read_pride_7) (.int read_coins_8) (.ref a_read_house) (.ref a_read_free) (.ref a_read_stuffed) (.ref a_read_after) (.ref a_read_weight) (.ref a_read_need)), (a_read_house, .inl (cI, 6, .inl read_house_9)), (a_read_free, .inl (cI, 6, .inl read_free_10)), (a_read_stuffed, .inl (cI, 6, .inl read_stuffed_11)), (a_read_after, .inl (cI, 6, .inl read_after_12)), (a_read_weight, .inl (cI, 5, .inl read_weight_13)), (a_read_need, .inl (cI, 5, .inl read_need_14))] H locs := hw
      refine lv_iconst (v := (-1 : Int32)) hx hb dX6_readsAll_78 (by decide) ?_
      refine lv_icmp_ne (tgt := 110) hx hb dX6_readsAll_79 (by decide) (fun hc => ?_) (fun hc => ?_)
      · have hf := (if_neg hc).symm.trans hf
        refine lv_aload_n hx hb dX6_readsAll_110 rfl (lv_at hl 0 rfl) ?_
        refine va_get (ci := 6) (v := .ref a_tape) (C := RX6) (T := TX6) (N := 4) hx hb hts in_X6_readsAll_X6 hown hK hw.1 2 rfl rfl 1 (by decide) (hts _ lk_X6_readsAll_0) (fun _ h9 => h9) rfl dX6_readsAll_111 ?_
        refine lv_bipush (v := (59 : Int32)) hx hb dX6_readsAll_114 (by decide) ?_
        obtain ⟨r_19, tape_at_20, hg_21, hf⟩ := ob2_some hf
        refine cl_ViA (As := [.int (59 : Int32)]) (rest := []) C K hw (k_X10_take a_tape a_tape_bytes tape_length tape_bytes r_19 tape_at_20 tape_at_17 (59 : Int32) hg_21) [0, 1] rfl (by decide) rfl rfl (ci := 10) (j := 0) rfl rfl (cwV 1 hts gX6_readsAll_X10_take rfl rfl rfl (by decide +kernel) ⟨Nat.le_of_ble_eq_true rfl, Nat.le_of_ble_eq_true rfl⟩) rfl hl rfl (Nat.le_of_ble_eq_true rfl) dX6_readsAll_116 ⟨Nat.zero_le _, Nat.zero_le _⟩ (fun H locs hw => ?_)
        have hw : Wo D A s [(oX10 a_tape (.ref a_tape_bytes) (.int tape_length) (.int tape_at_20)), (a_tape_bytes, .inl (cI, 240, .inl tape_bytes)), (oX6 a_pr (.ref a_read) (.ref a_tape) (.ref a_pr_values) (.int pr_ruled_3)), (a_pr_values, .inl (cI, 4, .inl pr_values_4)), (oX5 a_read (.int read_gloves_5) (.int read_matters_6) (.int read_pride_7) (.int read_coins_8) (.ref a_read_house) (.ref a_read_free) (.ref a_read_stuffed) (.ref a_read_after) (.ref a_read_weight) (.ref a_read_need)), (a_read_house, .inl (cI, 6, .inl read_house_9)), (a_read_free, .inl (cI, 6, .inl read_free_10)), (a_read_stuffed, .inl (cI, 6, .inl read_stuffed_11)), (a_read_after, .inl (cI, 6, .inl read_after_12)), (a_read_weight, .inl (cI, 5, .inl read_weight_13)), (a_read_need, .inl (cI, 5, .inl read_need_14))] H locs := hw
        refine lv_if_ne (tgt := 124) hx hb dX6_readsAll_119 (by decide) (fun hc => ?_) (fun hc => ?_)
        · have hf := (if_neg hc).symm.trans hf
          obtain ⟨v1_22, e_v1_22, hf⟩ := bnd_some hf
          refine lv_iinc (v := v1_22) (lv' := [(1, .int v1_22), (0, .ref a_pr)]) hx hb dX6_readsAll_124 hl (k := 1) rfl (by rw [e_v1_22]; rfl) (by decide) rfl (fun ls hl => ?_)
          refine lv_goto (tgt := 55) hx hb dX6_readsAll_127 (by decide) ?_
          exact hk55 tape_at_20 pr_ruled_3 pr_values_4 read_gloves_5 read_matters_6 read_pride_7 read_coins_8 read_house_9 read_free_10 read_stuffed_11 read_after_12 read_weight_13 read_need_14 v1_22 _ _ _ hf hw (lv_sub hl [1, 0] rfl)
        · have hf := (if_pos hc).symm.trans hf
          refine lv_iconst (v := (0 : Int32)) hx hb dX6_readsAll_122 (by decide) ?_
          clear hk55; cases hf
          exact retZ C hw dX6_readsAll_123 (by decide) rfl
      · have hf := (if_pos hc).symm.trans hf
        refine lv_aload_n hx hb dX6_readsAll_82 rfl (lv_at hl 0 rfl) ?_
        refine va_get (ci := 6) (v := .ref a_read) (C := RX6) (T := TX6) (N := 4) hx hb hts in_X6_readsAll_X6 hown hK hw.1 2 rfl rfl 0 (by decide) (hts _ lk_X6_readsAll_3) (fun _ h9 => h9) rfl dX6_readsAll_83 ?_
        refine lv_iconst (v := (0 : Int32)) hx hb dX6_readsAll_86 (by decide) ?_
        obtain ⟨r_23, hg_24, hf⟩ := ob1_some hf
        refine cl_ViA (As := [.int (0 : Int32)]) (rest := []) C K hw (k_X5_sizeOf a_read a_read_house a_read_free a_read_stuffed a_read_after a_read_weight a_read_need read_gloves_5 read_matters_6 read_pride_7 read_coins_8 read_house_9 r_23 (0 : Int32) hg_24) [4, 5] rfl (by decide) rfl rfl (ci := 5) (j := 4) rfl rfl (cwV 1 hts gX6_readsAll_X5_sizeOf rfl rfl rfl (by decide +kernel) ⟨Nat.le_of_ble_eq_true rfl, Nat.le_of_ble_eq_true rfl⟩) rfl hl rfl (Nat.le_of_ble_eq_true rfl) dX6_readsAll_87 ⟨Nat.zero_le _, Nat.zero_le _⟩ (fun H locs hw => ?_)
        have hw : Wo D A s [(oX10 a_tape (.ref a_tape_bytes) (.int tape_length) (.int tape_at_17)), (a_tape_bytes, .inl (cI, 240, .inl tape_bytes)), (oX6 a_pr (.ref a_read) (.ref a_tape) (.ref a_pr_values) (.int pr_ruled_3)), (a_pr_values, .inl (cI, 4, .inl pr_values_4)), (oX5 a_read (.int read_gloves_5) (.int read_matters_6) (.int read_pride_7) (.int read_coins_8) (.ref a_read_house) (.ref a_read_free) (.ref a_read_stuffed) (.ref a_read_after) (.ref a_read_weight) (.ref a_read_need)), (a_read_house, .inl (cI, 6, .inl read_house_9)), (a_read_free, .inl (cI, 6, .inl read_free_10)), (a_read_stuffed, .inl (cI, 6, .inl read_stuffed_11)), (a_read_after, .inl (cI, 6, .inl read_after_12)), (a_read_weight, .inl (cI, 5, .inl read_weight_13)), (a_read_need, .inl (cI, 5, .inl read_need_14))] H locs := hw
        refine lv_if_le (tgt := 108) hx hb dX6_readsAll_90 (by decide) (fun hc => ?_) (fun hc => ?_)
        · have hf := (if_pos hc).symm.trans hf
          refine lv_iconst (v := (0 : Int32)) hx hb dX6_readsAll_108 (by decide) ?_
          clear hk55; cases hf
          exact retZ C hw dX6_readsAll_109 (by decide) rfl
        · have hf := (if_neg hc).symm.trans hf
          refine lv_aload_n hx hb dX6_readsAll_93 rfl (lv_at hl 0 rfl) ?_
          refine va_get (ci := 6) (v := .ref a_read) (C := RX6) (T := TX6) (N := 4) hx hb hts in_X6_readsAll_X6 hown hK hw.1 2 rfl rfl 0 (by decide) (hts _ lk_X6_readsAll_3) (fun _ h9 => h9) rfl dX6_readsAll_94 ?_
          refine lv_iconst (v := (1 : Int32)) hx hb dX6_readsAll_97 (by decide) ?_
          obtain ⟨r_25, hg_26, hf⟩ := ob1_some hf
          refine cl_ViA (As := [.int (1 : Int32)]) (rest := []) C K hw (k_X5_sizeOf a_read a_read_house a_read_free a_read_stuffed a_read_after a_read_weight a_read_need read_gloves_5 read_matters_6 read_pride_7 read_coins_8 read_house_9 r_25 (1 : Int32) hg_26) [4, 5] rfl (by decide) rfl rfl (ci := 5) (j := 4) rfl rfl (cwV 1 hts gX6_readsAll_X5_sizeOf rfl rfl rfl (by decide +kernel) ⟨Nat.le_of_ble_eq_true rfl, Nat.le_of_ble_eq_true rfl⟩) rfl hl rfl (Nat.le_of_ble_eq_true rfl) dX6_readsAll_98 ⟨Nat.zero_le _, Nat.zero_le _⟩ (fun H locs hw => ?_)
          have hw : Wo D A s [(oX10 a_tape (.ref a_tape_bytes) (.int tape_length) (.int tape_at_17)), (a_tape_bytes, .inl (cI, 240, .inl tape_bytes)), (oX6 a_pr (.ref a_read) (.ref a_tape) (.ref a_pr_values) (.int pr_ruled_3)), (a_pr_values, .inl (cI, 4, .inl pr_values_4)), (oX5 a_read (.int read_gloves_5) (.int read_matters_6) (.int read_pride_7) (.int read_coins_8) (.ref a_read_house) (.ref a_read_free) (.ref a_read_stuffed) (.ref a_read_after) (.ref a_read_weight) (.ref a_read_need)), (a_read_house, .inl (cI, 6, .inl read_house_9)), (a_read_free, .inl (cI, 6, .inl read_free_10)), (a_read_stuffed, .inl (cI, 6, .inl read_stuffed_11)), (a_read_after, .inl (cI, 6, .inl read_after_12)), (a_read_weight, .inl (cI, 5, .inl read_weight_13)), (a_read_need, .inl (cI, 5, .inl read_need_14))] H locs := hw
          refine lv_if_le (tgt := 108) hx hb dX6_readsAll_101 (by decide) (fun hc => ?_) (fun hc => ?_)
          · have hf := (if_pos hc).symm.trans hf
            refine lv_iconst (v := (0 : Int32)) hx hb dX6_readsAll_108 (by decide) ?_
            clear hk55; cases hf
            exact retZ C hw dX6_readsAll_109 (by decide) rfl
          · have hf := (if_neg hc).symm.trans hf
            refine lv_iconst (v := (1 : Int32)) hx hb dX6_readsAll_104 (by decide) ?_
            refine lv_goto (tgt := 109) hx hb dX6_readsAll_105 (by decide) ?_
            clear hk55; cases hf
            exact retZ C hw dX6_readsAll_109 (by decide) rfl
    · have hf := (if_pos hc).symm.trans hf
      refine lv_iconst (v := (0 : Int32)) hx hb dX6_readsAll_69 (by decide) ?_
      clear hk55; cases hf
      exact retZ C hw dX6_readsAll_70 (by decide) rfl
theorem qf_X6_readsAll_55 {p : Program} {l : Launch} {e : Env} {s : State} {m : MethodId} {args : Array Value} {below : List Frame} {meth : Method} {c : Code} {sx : List sx_T} {D : va_G} {cI cZ cO : ClassId} {A : Nat → Prop} (C : Cx p s m args meth c RX6 wsX6_readsAll cX6_readsAll 2 (some .boolean)) (K : Kx sx D (tyL cI cZ cO) A s) (a_tape : Nat) (a_tape_bytes : Nat) (a_pr : Nat) (a_read : Nat) (a_pr_values : Nat) (a_read_house : Nat) (a_read_free : Nat) (a_read_stuffed : Nat) (a_read_after : Nat) (a_read_weight : Nat) (a_read_need : Nat) (b_plT : Nat) (plT : Nat → Int32) (b_pmT : Nat) (pmT : Nat → Int32) (b_puT : Nat) (puT : Nat → Int32) (tape_length : Int32) (tape_bytes : Nat → Int32) (r0 : Int32) (o_tape_at : Int32) (o_pr_ruled : Int32) (o_pr_values : Nat → Int32) (o_read_gloves : Int32) (o_read_matters : Int32) (o_read_pride : Int32) (o_read_coins : Int32) (o_read_house : Nat → Int32) (o_read_free : Nat → Int32) (o_read_stuffed : Nat → Int32) (o_read_after : Nat → Int32) (o_read_weight : Nat → Int32) (o_read_need : Nat → Int32) (hs_plT : (("GloveHouses$PeaceReader", "LETTERS", "[C", b_plT, .char, 12, plT) : sx_T) ∈ sx) (hs_pmT : (("GloveHouses$PeaceReader", "MOST", "[I", b_pmT, .int, 12, pmT) : sx_T) ∈ sx) (hs_puT : (("GloveHouses$PeaceReader", "USUAL", "[I", b_puT, .int, 12, puT) : sx_T) ∈ sx)   (n : Nat) : ∀ (tape_at : Int32) (pr_ruled : Int32) (pr_values : Nat → Int32) (read_gloves : Int32) (read_matters : Int32) (read_pride : Int32) (read_coins : Int32) (read_house : Nat → Int32) (read_free : Nat → Int32) (read_stuffed : Nat → Int32) (read_after : Nat → Int32) (read_weight : Nat → Int32) (read_need : Nat → Int32) (v1 : Int32) (H : Heap) (locs : List Loc) (ls : Array Slot), f_X6_readsAll_55 tape_length tape_bytes plT pmT puT  n tape_at pr_ruled pr_values read_gloves read_matters read_pride read_coins read_house read_free read_stuffed read_after read_weight read_need v1 = some (r0, o_tape_at, o_pr_ruled, o_pr_values, o_read_gloves, o_read_matters, o_read_pride, o_read_coins, o_read_house, o_read_free, o_read_stuffed, o_read_after, o_read_weight, o_read_need) → Wo D A s [(oX10 a_tape (.ref a_tape_bytes) (.int tape_length) (.int tape_at)), (a_tape_bytes, .inl (cI, 240, .inl tape_bytes)), (oX6 a_pr (.ref a_read) (.ref a_tape) (.ref a_pr_values) (.int pr_ruled)), (a_pr_values, .inl (cI, 4, .inl pr_values)), (oX5 a_read (.int read_gloves) (.int read_matters) (.int read_pride) (.int read_coins) (.ref a_read_house) (.ref a_read_free) (.ref a_read_stuffed) (.ref a_read_after) (.ref a_read_weight) (.ref a_read_need)), (a_read_house, .inl (cI, 6, .inl read_house)), (a_read_free, .inl (cI, 6, .inl read_free)), (a_read_stuffed, .inl (cI, 6, .inl read_stuffed)), (a_read_after, .inl (cI, 6, .inl read_after)), (a_read_weight, .inl (cI, 5, .inl read_weight)), (a_read_need, .inl (cI, 5, .inl read_need))] H locs → lv_has ls 2 [(0, .ref a_pr), (1, .int v1)] → W p l e rm_X6_readsAll s m args below meth c H locs 0 0 (MQ below (QcI D A r0 [(oX10 a_tape (.ref a_tape_bytes) (.int tape_length) (.int o_tape_at)), (a_tape_bytes, .inl (cI, 240, .inl tape_bytes)), (oX6 a_pr (.ref a_read) (.ref a_tape) (.ref a_pr_values) (.int o_pr_ruled)), (a_pr_values, .inl (cI, 4, .inl o_pr_values)), (oX5 a_read (.int o_read_gloves) (.int o_read_matters) (.int o_read_pride) (.int o_read_coins) (.ref a_read_house) (.ref a_read_free) (.ref a_read_stuffed) (.ref a_read_after) (.ref a_read_weight) (.ref a_read_need)), (a_read_house, .inl (cI, 6, .inl o_read_house)), (a_read_free, .inl (cI, 6, .inl o_read_free)), (a_read_stuffed, .inl (cI, 6, .inl o_read_stuffed)), (a_read_after, .inl (cI, 6, .inl o_read_after)), (a_read_weight, .inl (cI, 5, .inl o_read_weight)), (a_read_need, .inl (cI, 5, .inl o_read_need))]) args s 0 0 A) (F0 m 55 ls []) := by
  induction n with
  | zero =>
    intro tape_at pr_ruled pr_values read_gloves read_matters read_pride read_coins read_house read_free read_stuffed read_after read_weight read_need v1 H locs ls hf
    have h9 : (none : Option (Int32 × Int32 × Int32 × (Nat → Int32) × Int32 × Int32 × Int32 × Int32 × (Nat → Int32) × (Nat → Int32) × (Nat → Int32) × (Nat → Int32) × (Nat → Int32) × (Nat → Int32))) = some (r0, o_tape_at, o_pr_ruled, o_pr_values, o_read_gloves, o_read_matters, o_read_pride, o_read_coins, o_read_house, o_read_free, o_read_stuffed, o_read_after, o_read_weight, o_read_need) := hf
    cases h9
  | succ n ih =>
    intro tape_at pr_ruled pr_values read_gloves read_matters read_pride read_coins read_house read_free read_stuffed read_after read_weight read_need v1 H locs ls hf hw hl
    exact q_X6_readsAll_55 C K a_tape a_tape_bytes a_pr a_read a_pr_values a_read_house a_read_free a_read_stuffed a_read_after a_read_weight a_read_need b_plT plT b_pmT pmT b_puT puT tape_length tape_bytes r0 o_tape_at o_pr_ruled o_pr_values o_read_gloves o_read_matters o_read_pride o_read_coins o_read_house o_read_free o_read_stuffed o_read_after o_read_weight o_read_need hs_plT hs_pmT hs_puT  (f_X6_readsAll_55 tape_length tape_bytes plT pmT puT  n) ih tape_at pr_ruled pr_values read_gloves read_matters read_pride read_coins read_house read_free read_stuffed read_after read_weight read_need v1 hf hw hl
set_option maxHeartbeats 4000000 in
set_option maxRecDepth 100000 in
theorem q_X6_readsAll_0 {p : Program} {l : Launch} {e : Env} {s : State} {m : MethodId} {args : Array Value} {below : List Frame} {meth : Method} {c : Code} {sx : List sx_T} {D : va_G} {cI cZ cO : ClassId} {A : Nat → Prop} (C : Cx p s m args meth c RX6 wsX6_readsAll cX6_readsAll 2 (some .boolean)) (K : Kx sx D (tyL cI cZ cO) A s) (a_tape : Nat) (a_tape_bytes : Nat) (a_pr : Nat) (a_read : Nat) (a_pr_values : Nat) (a_read_house : Nat) (a_read_free : Nat) (a_read_stuffed : Nat) (a_read_after : Nat) (a_read_weight : Nat) (a_read_need : Nat) (b_plT : Nat) (plT : Nat → Int32) (b_pmT : Nat) (pmT : Nat → Int32) (b_puT : Nat) (puT : Nat → Int32) (tape_length : Int32) (tape_bytes : Nat → Int32) (r0 : Int32) (o_tape_at : Int32) (o_pr_ruled : Int32) (o_pr_values : Nat → Int32) (o_read_gloves : Int32) (o_read_matters : Int32) (o_read_pride : Int32) (o_read_coins : Int32) (o_read_house : Nat → Int32) (o_read_free : Nat → Int32) (o_read_stuffed : Nat → Int32) (o_read_after : Nat → Int32) (o_read_weight : Nat → Int32) (o_read_need : Nat → Int32) (hs_plT : (("GloveHouses$PeaceReader", "LETTERS", "[C", b_plT, .char, 12, plT) : sx_T) ∈ sx) (hs_pmT : (("GloveHouses$PeaceReader", "MOST", "[I", b_pmT, .int, 12, pmT) : sx_T) ∈ sx) (hs_puT : (("GloveHouses$PeaceReader", "USUAL", "[I", b_puT, .int, 12, puT) : sx_T) ∈ sx)   (tape_at : Int32) (pr_ruled : Int32) (pr_values : Nat → Int32) (read_gloves : Int32) (read_matters : Int32) (read_pride : Int32) (read_coins : Int32) (read_house : Nat → Int32) (read_free : Nat → Int32) (read_stuffed : Nat → Int32) (read_after : Nat → Int32) (read_weight : Nat → Int32) (read_need : Nat → Int32) {H : Heap} {locs : List Loc} {ls : Array Slot} (hf : b_X6_readsAll_0 tape_length tape_bytes plT pmT puT  tape_at pr_ruled pr_values read_gloves read_matters read_pride read_coins read_house read_free read_stuffed read_after read_weight read_need = some (r0, o_tape_at, o_pr_ruled, o_pr_values, o_read_gloves, o_read_matters, o_read_pride, o_read_coins, o_read_house, o_read_free, o_read_stuffed, o_read_after, o_read_weight, o_read_need)) (hw : Wo D A s [(oX10 a_tape (.ref a_tape_bytes) (.int tape_length) (.int tape_at)), (a_tape_bytes, .inl (cI, 240, .inl tape_bytes)), (oX6 a_pr (.ref a_read) (.ref a_tape) (.ref a_pr_values) (.int pr_ruled)), (a_pr_values, .inl (cI, 4, .inl pr_values)), (oX5 a_read (.int read_gloves) (.int read_matters) (.int read_pride) (.int read_coins) (.ref a_read_house) (.ref a_read_free) (.ref a_read_stuffed) (.ref a_read_after) (.ref a_read_weight) (.ref a_read_need)), (a_read_house, .inl (cI, 6, .inl read_house)), (a_read_free, .inl (cI, 6, .inl read_free)), (a_read_stuffed, .inl (cI, 6, .inl read_stuffed)), (a_read_after, .inl (cI, 6, .inl read_after)), (a_read_weight, .inl (cI, 5, .inl read_weight)), (a_read_need, .inl (cI, 5, .inl read_need))] H locs) (hl : lv_has ls 2 [(0, .ref a_pr)]) : W p l e rm_X6_readsAll s m args below meth c H locs 0 0 (MQ below (QcI D A r0 [(oX10 a_tape (.ref a_tape_bytes) (.int tape_length) (.int o_tape_at)), (a_tape_bytes, .inl (cI, 240, .inl tape_bytes)), (oX6 a_pr (.ref a_read) (.ref a_tape) (.ref a_pr_values) (.int o_pr_ruled)), (a_pr_values, .inl (cI, 4, .inl o_pr_values)), (oX5 a_read (.int o_read_gloves) (.int o_read_matters) (.int o_read_pride) (.int o_read_coins) (.ref a_read_house) (.ref a_read_free) (.ref a_read_stuffed) (.ref a_read_after) (.ref a_read_weight) (.ref a_read_need)), (a_read_house, .inl (cI, 6, .inl o_read_house)), (a_read_free, .inl (cI, 6, .inl o_read_free)), (a_read_stuffed, .inl (cI, 6, .inl o_read_stuffed)), (a_read_after, .inl (cI, 6, .inl o_read_after)), (a_read_weight, .inl (cI, 5, .inl o_read_weight)), (a_read_need, .inl (cI, 5, .inl o_read_need))]) args s 0 0 A) (F0 m 0 ls []) := by
  obtain ⟨hx, hb, hml, hown, hts, hr, hlk⟩ := id C
  obtain ⟨hK, hX, hA⟩ := id K
  unfold b_X6_readsAll_0 at hf
  refine lv_aload_n hx hb dX6_readsAll_0 rfl (lv_at hl 0 rfl) ?_
  refine va_get (ci := 6) (v := .ref a_tape) (C := RX6) (T := TX6) (N := 4) hx hb hts in_X6_readsAll_X6 hown hK hw.1 2 rfl rfl 1 (by decide) (hts _ lk_X6_readsAll_0) (fun _ h9 => h9) rfl dX6_readsAll_1 ?_
  refine lv_iconst (v := (0 : Int32)) hx hb dX6_readsAll_4 (by decide) ?_
  refine va_put (ci := 10) (v := .int (0 : Int32)) (ty := .int) (C := RX10) (T := TX10) (N := 3) hx hb hts in_X6_readsAll_X10 tyX10 tyX10_ok nmX10 hown hK hw.1 hw.2.1 hw.2.2 0 rfl rfl 2 (by decide) (hts _ lk_X6_readsAll_1) (fun _ h9 => h9) rfl (by decide +kernel) rfl rfl (Nat.le_of_ble_eq_true rfl) dX6_readsAll_5 (fun H locs hP hD hS => ?_)
  have hw : Wo D A s [(oX10 a_tape (.ref a_tape_bytes) (.int tape_length) (.int (0 : Int32))), (a_tape_bytes, .inl (cI, 240, .inl tape_bytes)), (oX6 a_pr (.ref a_read) (.ref a_tape) (.ref a_pr_values) (.int pr_ruled)), (a_pr_values, .inl (cI, 4, .inl pr_values)), (oX5 a_read (.int read_gloves) (.int read_matters) (.int read_pride) (.int read_coins) (.ref a_read_house) (.ref a_read_free) (.ref a_read_stuffed) (.ref a_read_after) (.ref a_read_weight) (.ref a_read_need)), (a_read_house, .inl (cI, 6, .inl read_house)), (a_read_free, .inl (cI, 6, .inl read_free)), (a_read_stuffed, .inl (cI, 6, .inl read_stuffed)), (a_read_after, .inl (cI, 6, .inl read_after)), (a_read_weight, .inl (cI, 5, .inl read_weight)), (a_read_need, .inl (cI, 5, .inl read_need))] H locs := ⟨hP, hD, hS⟩
  refine lv_aload_n hx hb dX6_readsAll_8 rfl (lv_at hl 0 rfl) ?_
  refine lv_iconst (v := (0 : Int32)) hx hb dX6_readsAll_9 (by decide) ?_
  refine va_put (ci := 6) (v := .int (0 : Int32)) (ty := .boolean) (C := RX6) (T := TX6) (N := 4) hx hb hts in_X6_readsAll_X6 tyX6 tyX6_ok nmX6 hown hK hw.1 hw.2.1 hw.2.2 2 rfl rfl 3 (by decide) (hts _ lk_X6_readsAll_2) (fun _ h9 => h9) rfl (by decide +kernel) rfl rfl (Nat.le_of_ble_eq_true rfl) dX6_readsAll_10 (fun H locs hP hD hS => ?_)
  have hw : Wo D A s [(oX10 a_tape (.ref a_tape_bytes) (.int tape_length) (.int (0 : Int32))), (a_tape_bytes, .inl (cI, 240, .inl tape_bytes)), (oX6 a_pr (.ref a_read) (.ref a_tape) (.ref a_pr_values) (.int (0 : Int32))), (a_pr_values, .inl (cI, 4, .inl pr_values)), (oX5 a_read (.int read_gloves) (.int read_matters) (.int read_pride) (.int read_coins) (.ref a_read_house) (.ref a_read_free) (.ref a_read_stuffed) (.ref a_read_after) (.ref a_read_weight) (.ref a_read_need)), (a_read_house, .inl (cI, 6, .inl read_house)), (a_read_free, .inl (cI, 6, .inl read_free)), (a_read_stuffed, .inl (cI, 6, .inl read_stuffed)), (a_read_after, .inl (cI, 6, .inl read_after)), (a_read_weight, .inl (cI, 5, .inl read_weight)), (a_read_need, .inl (cI, 5, .inl read_need))] H locs := ⟨hP, hD, hS⟩
  refine lv_aload_n hx hb dX6_readsAll_13 rfl (lv_at hl 0 rfl) ?_
  refine va_get (ci := 6) (v := .ref a_read) (C := RX6) (T := TX6) (N := 4) hx hb hts in_X6_readsAll_X6 hown hK hw.1 2 rfl rfl 0 (by decide) (hts _ lk_X6_readsAll_3) (fun _ h9 => h9) rfl dX6_readsAll_14 ?_
  refine lv_iconst (v := (0 : Int32)) hx hb dX6_readsAll_17 (by decide) ?_
  refine va_put (ci := 5) (v := .int (0 : Int32)) (ty := .int) (C := RX5) (T := TX5) (N := 10) hx hb hts in_X6_readsAll_X5 tyX5 tyX5_ok nmX5 hown hK hw.1 hw.2.1 hw.2.2 4 rfl rfl 0 (by decide) (hts _ lk_X6_readsAll_4) (fun _ h9 => h9) rfl (by decide +kernel) rfl rfl (Nat.le_of_ble_eq_true rfl) dX6_readsAll_18 (fun H locs hP hD hS => ?_)
  have hw : Wo D A s [(oX10 a_tape (.ref a_tape_bytes) (.int tape_length) (.int (0 : Int32))), (a_tape_bytes, .inl (cI, 240, .inl tape_bytes)), (oX6 a_pr (.ref a_read) (.ref a_tape) (.ref a_pr_values) (.int (0 : Int32))), (a_pr_values, .inl (cI, 4, .inl pr_values)), (oX5 a_read (.int (0 : Int32)) (.int read_matters) (.int read_pride) (.int read_coins) (.ref a_read_house) (.ref a_read_free) (.ref a_read_stuffed) (.ref a_read_after) (.ref a_read_weight) (.ref a_read_need)), (a_read_house, .inl (cI, 6, .inl read_house)), (a_read_free, .inl (cI, 6, .inl read_free)), (a_read_stuffed, .inl (cI, 6, .inl read_stuffed)), (a_read_after, .inl (cI, 6, .inl read_after)), (a_read_weight, .inl (cI, 5, .inl read_weight)), (a_read_need, .inl (cI, 5, .inl read_need))] H locs := ⟨hP, hD, hS⟩
  refine lv_aload_n hx hb dX6_readsAll_21 rfl (lv_at hl 0 rfl) ?_
  refine va_get (ci := 6) (v := .ref a_read) (C := RX6) (T := TX6) (N := 4) hx hb hts in_X6_readsAll_X6 hown hK hw.1 2 rfl rfl 0 (by decide) (hts _ lk_X6_readsAll_3) (fun _ h9 => h9) rfl dX6_readsAll_22 ?_
  refine lv_iconst (v := (0 : Int32)) hx hb dX6_readsAll_25 (by decide) ?_
  refine va_put (ci := 5) (v := .int (0 : Int32)) (ty := .int) (C := RX5) (T := TX5) (N := 10) hx hb hts in_X6_readsAll_X5 tyX5 tyX5_ok nmX5 hown hK hw.1 hw.2.1 hw.2.2 4 rfl rfl 1 (by decide) (hts _ lk_X6_readsAll_5) (fun _ h9 => h9) rfl (by decide +kernel) rfl rfl (Nat.le_of_ble_eq_true rfl) dX6_readsAll_26 (fun H locs hP hD hS => ?_)
  have hw : Wo D A s [(oX10 a_tape (.ref a_tape_bytes) (.int tape_length) (.int (0 : Int32))), (a_tape_bytes, .inl (cI, 240, .inl tape_bytes)), (oX6 a_pr (.ref a_read) (.ref a_tape) (.ref a_pr_values) (.int (0 : Int32))), (a_pr_values, .inl (cI, 4, .inl pr_values)), (oX5 a_read (.int (0 : Int32)) (.int (0 : Int32)) (.int read_pride) (.int read_coins) (.ref a_read_house) (.ref a_read_free) (.ref a_read_stuffed) (.ref a_read_after) (.ref a_read_weight) (.ref a_read_need)), (a_read_house, .inl (cI, 6, .inl read_house)), (a_read_free, .inl (cI, 6, .inl read_free)), (a_read_stuffed, .inl (cI, 6, .inl read_stuffed)), (a_read_after, .inl (cI, 6, .inl read_after)), (a_read_weight, .inl (cI, 5, .inl read_weight)), (a_read_need, .inl (cI, 5, .inl read_need))] H locs := ⟨hP, hD, hS⟩
  refine lv_aload_n hx hb dX6_readsAll_29 rfl (lv_at hl 0 rfl) ?_
  refine va_get (ci := 6) (v := .ref a_read) (C := RX6) (T := TX6) (N := 4) hx hb hts in_X6_readsAll_X6 hown hK hw.1 2 rfl rfl 0 (by decide) (hts _ lk_X6_readsAll_3) (fun _ h9 => h9) rfl dX6_readsAll_30 ?_
  refine va_gets (v := .ref b_puT) hx hb (hX _ hs_puT).1 hw.2.2 hown (hts _ lk_X6_readsAll_6) (fun _ h9 => h9) dX6_readsAll_33 ?_
  refine lv_iconst (v := (0 : Int32)) hx hb dX6_readsAll_36 (by decide) ?_
  obtain ⟨hc_1, hf⟩ := gd_some hf
  refine sx_ild hx hb (hX _ hs_puT).2.1 (hX _ hs_puT).2.2 hw.2.2 (inB_in hc_1) dX6_readsAll_37 ?_
  obtain ⟨pride_2, e_pride_2, hf⟩ := bnd_some hf
  refine lv_nmi e_pride_2 ?_
  refine va_put (ci := 5) (v := .int pride_2) (ty := .int) (C := RX5) (T := TX5) (N := 10) hx hb hts in_X6_readsAll_X5 tyX5 tyX5_ok nmX5 hown hK hw.1 hw.2.1 hw.2.2 4 rfl rfl 2 (by decide) (hts _ lk_X6_readsAll_7) (fun _ h9 => h9) rfl (by decide +kernel) rfl rfl (Nat.le_of_ble_eq_true rfl) dX6_readsAll_38 (fun H locs hP hD hS => ?_)
  have hw : Wo D A s [(oX10 a_tape (.ref a_tape_bytes) (.int tape_length) (.int (0 : Int32))), (a_tape_bytes, .inl (cI, 240, .inl tape_bytes)), (oX6 a_pr (.ref a_read) (.ref a_tape) (.ref a_pr_values) (.int (0 : Int32))), (a_pr_values, .inl (cI, 4, .inl pr_values)), (oX5 a_read (.int (0 : Int32)) (.int (0 : Int32)) (.int pride_2) (.int read_coins) (.ref a_read_house) (.ref a_read_free) (.ref a_read_stuffed) (.ref a_read_after) (.ref a_read_weight) (.ref a_read_need)), (a_read_house, .inl (cI, 6, .inl read_house)), (a_read_free, .inl (cI, 6, .inl read_free)), (a_read_stuffed, .inl (cI, 6, .inl read_stuffed)), (a_read_after, .inl (cI, 6, .inl read_after)), (a_read_weight, .inl (cI, 5, .inl read_weight)), (a_read_need, .inl (cI, 5, .inl read_need))] H locs := ⟨hP, hD, hS⟩
  refine lv_aload_n hx hb dX6_readsAll_41 rfl (lv_at hl 0 rfl) ?_
  refine va_get (ci := 6) (v := .ref a_read) (C := RX6) (T := TX6) (N := 4) hx hb hts in_X6_readsAll_X6 hown hK hw.1 2 rfl rfl 0 (by decide) (hts _ lk_X6_readsAll_3) (fun _ h9 => h9) rfl dX6_readsAll_42 ?_
  refine va_gets (v := .ref b_puT) hx hb (hX _ hs_puT).1 hw.2.2 hown (hts _ lk_X6_readsAll_6) (fun _ h9 => h9) dX6_readsAll_45 ?_
  refine lv_iconst (v := (1 : Int32)) hx hb dX6_readsAll_48 (by decide) ?_
  obtain ⟨hc_3, hf⟩ := gd_some hf
  refine sx_ild hx hb (hX _ hs_puT).2.1 (hX _ hs_puT).2.2 hw.2.2 (inB_in hc_3) dX6_readsAll_49 ?_
  obtain ⟨coins_4, e_coins_4, hf⟩ := bnd_some hf
  refine lv_nmi e_coins_4 ?_
  refine va_put (ci := 5) (v := .int coins_4) (ty := .int) (C := RX5) (T := TX5) (N := 10) hx hb hts in_X6_readsAll_X5 tyX5 tyX5_ok nmX5 hown hK hw.1 hw.2.1 hw.2.2 4 rfl rfl 3 (by decide) (hts _ lk_X6_readsAll_8) (fun _ h9 => h9) rfl (by decide +kernel) rfl rfl (Nat.le_of_ble_eq_true rfl) dX6_readsAll_50 (fun H locs hP hD hS => ?_)
  have hw : Wo D A s [(oX10 a_tape (.ref a_tape_bytes) (.int tape_length) (.int (0 : Int32))), (a_tape_bytes, .inl (cI, 240, .inl tape_bytes)), (oX6 a_pr (.ref a_read) (.ref a_tape) (.ref a_pr_values) (.int (0 : Int32))), (a_pr_values, .inl (cI, 4, .inl pr_values)), (oX5 a_read (.int (0 : Int32)) (.int (0 : Int32)) (.int pride_2) (.int coins_4) (.ref a_read_house) (.ref a_read_free) (.ref a_read_stuffed) (.ref a_read_after) (.ref a_read_weight) (.ref a_read_need)), (a_read_house, .inl (cI, 6, .inl read_house)), (a_read_free, .inl (cI, 6, .inl read_free)), (a_read_stuffed, .inl (cI, 6, .inl read_stuffed)), (a_read_after, .inl (cI, 6, .inl read_after)), (a_read_weight, .inl (cI, 5, .inl read_weight)), (a_read_need, .inl (cI, 5, .inl read_need))] H locs := ⟨hP, hD, hS⟩
  refine lv_iconst (v := (0 : Int32)) hx hb dX6_readsAll_53 (by decide) ?_
  refine lv_istore_n (lv' := [(1, .int (0 : Int32)), (0, .ref a_pr)]) hx hb dX6_readsAll_54 rfl hl (by decide) rfl (fun ls hl => ?_)
  exact qf_X6_readsAll_55 C K a_tape a_tape_bytes a_pr a_read a_pr_values a_read_house a_read_free a_read_stuffed a_read_after a_read_weight a_read_need b_plT plT b_pmT pmT b_puT puT tape_length tape_bytes r0 o_tape_at o_pr_ruled o_pr_values o_read_gloves o_read_matters o_read_pride o_read_coins o_read_house o_read_free o_read_stuffed o_read_after o_read_weight o_read_need hs_plT hs_pmT hs_puT  fu (0 : Int32) (0 : Int32) pr_values (0 : Int32) (0 : Int32) pride_2 coins_4 read_house read_free read_stuffed read_after read_weight read_need (0 : Int32) _ _ _ hf hw (lv_sub hl [1, 0] rfl)
set_option maxHeartbeats 4000000 in
set_option maxRecDepth 100000 in
theorem k_X6_readsAll {l : Launch} {sx : List sx_T} {D : va_G} {cI cZ cO : ClassId} (a_tape : Nat) (a_tape_bytes : Nat) (a_pr : Nat) (a_read : Nat) (a_pr_values : Nat) (a_read_house : Nat) (a_read_free : Nat) (a_read_stuffed : Nat) (a_read_after : Nat) (a_read_weight : Nat) (a_read_need : Nat) (b_plT : Nat) (plT : Nat → Int32) (b_pmT : Nat) (pmT : Nat → Int32) (b_puT : Nat) (puT : Nat → Int32) (tape_length : Int32) (tape_bytes : Nat → Int32) (r0 : Int32) (o_tape_at : Int32) (o_pr_ruled : Int32) (o_pr_values : Nat → Int32) (o_read_gloves : Int32) (o_read_matters : Int32) (o_read_pride : Int32) (o_read_coins : Int32) (o_read_house : Nat → Int32) (o_read_free : Nat → Int32) (o_read_stuffed : Nat → Int32) (o_read_after : Nat → Int32) (o_read_weight : Nat → Int32) (o_read_need : Nat → Int32) (tape_at : Int32) (pr_ruled : Int32) (pr_values : Nat → Int32) (read_gloves : Int32) (read_matters : Int32) (read_pride : Int32) (read_coins : Int32) (read_house : Nat → Int32) (read_free : Nat → Int32) (read_stuffed : Nat → Int32) (read_after : Nat → Int32) (read_weight : Nat → Int32) (read_need : Nat → Int32) (hs_plT : (("GloveHouses$PeaceReader", "LETTERS", "[C", b_plT, .char, 12, plT) : sx_T) ∈ sx) (hs_pmT : (("GloveHouses$PeaceReader", "MOST", "[I", b_pmT, .int, 12, pmT) : sx_T) ∈ sx) (hs_puT : (("GloveHouses$PeaceReader", "USUAL", "[I", b_puT, .int, 12, puT) : sx_T) ∈ sx) (hF : f_X6_readsAll tape_length tape_bytes plT pmT puT tape_at pr_ruled pr_values read_gloves read_matters read_pride read_coins read_house read_free read_stuffed read_after read_weight read_need = some (r0, o_tape_at, o_pr_ruled, o_pr_values, o_read_gloves, o_read_matters, o_read_pride, o_read_coins, o_read_house, o_read_free, o_read_stuffed, o_read_after, o_read_weight, o_read_need)) : CtI l yX6_readsAll wsX6_readsAll rm_X6_readsAll sx D (tyL cI cZ cO) [.ref a_pr] [(oX10 a_tape (.ref a_tape_bytes) (.int tape_length) (.int tape_at)), (a_tape_bytes, .inl (cI, 240, .inl tape_bytes)), (oX6 a_pr (.ref a_read) (.ref a_tape) (.ref a_pr_values) (.int pr_ruled)), (a_pr_values, .inl (cI, 4, .inl pr_values)), (oX5 a_read (.int read_gloves) (.int read_matters) (.int read_pride) (.int read_coins) (.ref a_read_house) (.ref a_read_free) (.ref a_read_stuffed) (.ref a_read_after) (.ref a_read_weight) (.ref a_read_need)), (a_read_house, .inl (cI, 6, .inl read_house)), (a_read_free, .inl (cI, 6, .inl read_free)), (a_read_stuffed, .inl (cI, 6, .inl read_stuffed)), (a_read_after, .inl (cI, 6, .inl read_after)), (a_read_weight, .inl (cI, 5, .inl read_weight)), (a_read_need, .inl (cI, 5, .inl read_need))] r0 [(oX10 a_tape (.ref a_tape_bytes) (.int tape_length) (.int o_tape_at)), (a_tape_bytes, .inl (cI, 240, .inl tape_bytes)), (oX6 a_pr (.ref a_read) (.ref a_tape) (.ref a_pr_values) (.int o_pr_ruled)), (a_pr_values, .inl (cI, 4, .inl o_pr_values)), (oX5 a_read (.int o_read_gloves) (.int o_read_matters) (.int o_read_pride) (.int o_read_coins) (.ref a_read_house) (.ref a_read_free) (.ref a_read_stuffed) (.ref a_read_after) (.ref a_read_weight) (.ref a_read_need)), (a_read_house, .inl (cI, 6, .inl o_read_house)), (a_read_free, .inl (cI, 6, .inl o_read_free)), (a_read_stuffed, .inl (cI, 6, .inl o_read_stuffed)), (a_read_after, .inl (cI, 6, .inl o_read_after)), (a_read_weight, .inl (cI, 5, .inl o_read_weight)), (a_read_need, .inl (cI, 5, .inl o_read_need))] := by
  refine ctI_of (cc := cX6_readsAll) (ret := (some .boolean)) (maxL := 2) (by decide) rfl (Nat.le_of_ble_eq_true rfl) ?_
  intro p e s m below meth c A ls C K hw hl
  exact q_X6_readsAll_0 C K a_tape a_tape_bytes a_pr a_read a_pr_values a_read_house a_read_free a_read_stuffed a_read_after a_read_weight a_read_need b_plT plT b_pmT pmT b_puT puT tape_length tape_bytes r0 o_tape_at o_pr_ruled o_pr_values o_read_gloves o_read_matters o_read_pride o_read_coins o_read_house o_read_free o_read_stuffed o_read_after o_read_weight o_read_need hs_plT hs_pmT hs_puT tape_at pr_ruled pr_values read_gloves read_matters read_pride read_coins read_house read_free read_stuffed read_after read_weight read_need hF hw (lv_sub hl [0] rfl)
