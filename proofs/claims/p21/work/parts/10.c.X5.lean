abbrev rm_X5_sizeOf : Room := { frames := 0, cells := 0, slots := 0, locals := 0 }
theorem in_X5_sizeOf_X5 : ∀ w ∈ u_ws RX5 TX5 10, w ∈ wsX5_sizeOf := fun w h => List.mem_cons_of_mem _ (bi_wsX50 w h)
theorem lk_X5_sizeOf_0 : Cond.fieldLink RX5 30 "GloveHouses$Peace" "gloves" "I" ∈ wsX5_sizeOf := List.mem_cons_of_mem _ (bi_wsL_law0_r12 _ (List.mem_of_getElem? (i := 8) rfl))
theorem lk_X5_sizeOf_1 : Cond.fieldLink RX5 9 "GloveHouses$Peace" "house" "[I" ∈ wsX5_sizeOf := List.mem_cons_of_mem _ (bi_wsL_law0_r4 _ (List.mem_of_getElem? (i := 9) rfl))
set_option maxHeartbeats 4000000 in
set_option maxRecDepth 100000 in
theorem q_X5_sizeOf_25 {p : Program} {l : Launch} {e : Env} {s : State} {m : MethodId} {args : Array Value} {below : List Frame} {meth : Method} {c : Code} {sx : List sx_T} {D : va_G} {cI cZ cO : ClassId} {A : Nat → Prop} (C : Cx p s m args meth c RX5 wsX5_sizeOf cX5_sizeOf 4 (some .int)) (K : Kx sx D (tyL cI cZ cO) A s) (a_P : Nat) (a_P_house : Nat) (a_P_free : Nat) (a_P_stuffed : Nat) (a_P_after : Nat) (a_P_weight : Nat) (a_P_need : Nat) (P_gloves : Int32) (P_matters : Int32) (P_pride : Int32) (P_coins : Int32) (P_house : Nat → Int32) (r0 : Int32)   (k4 : Int32 → Int32 → Int32 → Option (Int32)) (hk4 : ∀ (v1 : Int32) (v2 : Int32) (v3 : Int32) (H : Heap) (locs : List Loc) (ls : Array Slot), k4 v1 v2 v3 = some r0 → Wo D A s [(oX5 a_P (.int P_gloves) (.int P_matters) (.int P_pride) (.int P_coins) (.ref a_P_house) (.ref a_P_free) (.ref a_P_stuffed) (.ref a_P_after) (.ref a_P_weight) (.ref a_P_need)), (a_P_house, .inl (cI, 6, .inl P_house))] H locs → lv_has ls 4 [(0, .ref a_P), (1, .int v1), (2, .int v2), (3, .int v3)] → W p l e rm_X5_sizeOf s m args below meth c H locs 0 0 (MQ below (QcI D A r0 [(oX5 a_P (.int P_gloves) (.int P_matters) (.int P_pride) (.int P_coins) (.ref a_P_house) (.ref a_P_free) (.ref a_P_stuffed) (.ref a_P_after) (.ref a_P_weight) (.ref a_P_need)), (a_P_house, .inl (cI, 6, .inl P_house))]) args s 0 0 A) (F0 m 4 ls [])) (v1 : Int32) (v2 : Int32) (v3 : Int32) {H : Heap} {locs : List Loc} {ls : Array Slot} (hf : b_X5_sizeOf_25 P_gloves P_house k4 v1 v2 v3 = some r0) (hw : Wo D A s [(oX5 a_P (.int P_gloves) (.int P_matters) (.int P_pride) (.int P_coins) (.ref a_P_house) (.ref a_P_free) (.ref a_P_stuffed) (.ref a_P_after) (.ref a_P_weight) (.ref a_P_need)), (a_P_house, .inl (cI, 6, .inl P_house))] H locs) (hl : lv_has ls 4 [(0, .ref a_P), (1, .int v1), (2, .int v2), (3, .int v3)]) : W p l e rm_X5_sizeOf s m args below meth c H locs 0 0 (MQ below (QcI D A r0 [(oX5 a_P (.int P_gloves) (.int P_matters) (.int P_pride) (.int P_coins) (.ref a_P_house) (.ref a_P_free) (.ref a_P_stuffed) (.ref a_P_after) (.ref a_P_weight) (.ref a_P_need)), (a_P_house, .inl (cI, 6, .inl P_house))]) args s 0 0 A) (F0 m 25 ls []) := by
  obtain ⟨hx, hb, hml, hown, hts, hr, hlk⟩ := id C
  obtain ⟨hK, hX, hA⟩ := id K
  unfold b_X5_sizeOf_25 at hf
  obtain ⟨v3_1, e_v3_1, hf⟩ := bnd_some hf
  refine lv_iinc (v := v3_1) (lv' := [(3, .int v3_1), (0, .ref a_P), (1, .int v1), (2, .int v2)]) hx hb dX5_sizeOf_25 hl (k := 3) rfl (by rw [e_v3_1]; rfl) (by decide) rfl (fun ls hl => ?_)
  refine lv_goto (tgt := 4) hx hb dX5_sizeOf_28 (by decide) ?_
  exact hk4 v1 v2 v3_1 _ _ _ hf hw (lv_sub hl [1, 2, 3, 0] rfl)
set_option maxHeartbeats 4000000 in
set_option maxRecDepth 100000 in
theorem q_X5_sizeOf_4 {p : Program} {l : Launch} {e : Env} {s : State} {m : MethodId} {args : Array Value} {below : List Frame} {meth : Method} {c : Code} {sx : List sx_T} {D : va_G} {cI cZ cO : ClassId} {A : Nat → Prop} (C : Cx p s m args meth c RX5 wsX5_sizeOf cX5_sizeOf 4 (some .int)) (K : Kx sx D (tyL cI cZ cO) A s) (a_P : Nat) (a_P_house : Nat) (a_P_free : Nat) (a_P_stuffed : Nat) (a_P_after : Nat) (a_P_weight : Nat) (a_P_need : Nat) (P_gloves : Int32) (P_matters : Int32) (P_pride : Int32) (P_coins : Int32) (P_house : Nat → Int32) (r0 : Int32)   (k4 : Int32 → Int32 → Int32 → Option (Int32)) (hk4 : ∀ (v1 : Int32) (v2 : Int32) (v3 : Int32) (H : Heap) (locs : List Loc) (ls : Array Slot), k4 v1 v2 v3 = some r0 → Wo D A s [(oX5 a_P (.int P_gloves) (.int P_matters) (.int P_pride) (.int P_coins) (.ref a_P_house) (.ref a_P_free) (.ref a_P_stuffed) (.ref a_P_after) (.ref a_P_weight) (.ref a_P_need)), (a_P_house, .inl (cI, 6, .inl P_house))] H locs → lv_has ls 4 [(0, .ref a_P), (1, .int v1), (2, .int v2), (3, .int v3)] → W p l e rm_X5_sizeOf s m args below meth c H locs 0 0 (MQ below (QcI D A r0 [(oX5 a_P (.int P_gloves) (.int P_matters) (.int P_pride) (.int P_coins) (.ref a_P_house) (.ref a_P_free) (.ref a_P_stuffed) (.ref a_P_after) (.ref a_P_weight) (.ref a_P_need)), (a_P_house, .inl (cI, 6, .inl P_house))]) args s 0 0 A) (F0 m 4 ls [])) (v1 : Int32) (v2 : Int32) (v3 : Int32) {H : Heap} {locs : List Loc} {ls : Array Slot} (hf : b_X5_sizeOf_4 P_gloves P_house k4 v1 v2 v3 = some r0) (hw : Wo D A s [(oX5 a_P (.int P_gloves) (.int P_matters) (.int P_pride) (.int P_coins) (.ref a_P_house) (.ref a_P_free) (.ref a_P_stuffed) (.ref a_P_after) (.ref a_P_weight) (.ref a_P_need)), (a_P_house, .inl (cI, 6, .inl P_house))] H locs) (hl : lv_has ls 4 [(0, .ref a_P), (1, .int v1), (2, .int v2), (3, .int v3)]) : W p l e rm_X5_sizeOf s m args below meth c H locs 0 0 (MQ below (QcI D A r0 [(oX5 a_P (.int P_gloves) (.int P_matters) (.int P_pride) (.int P_coins) (.ref a_P_house) (.ref a_P_free) (.ref a_P_stuffed) (.ref a_P_after) (.ref a_P_weight) (.ref a_P_need)), (a_P_house, .inl (cI, 6, .inl P_house))]) args s 0 0 A) (F0 m 4 ls []) := by
  obtain ⟨hx, hb, hml, hown, hts, hr, hlk⟩ := id C
  obtain ⟨hK, hX, hA⟩ := id K
  unfold b_X5_sizeOf_4 at hf
  refine lv_iload_n hx hb dX5_sizeOf_4 rfl (lv_at hl 3 rfl) ?_
  refine lv_aload_n hx hb dX5_sizeOf_5 rfl (lv_at hl 0 rfl) ?_
  refine va_get (ci := 5) (v := .int P_gloves) (C := RX5) (T := TX5) (N := 10) hx hb hts in_X5_sizeOf_X5 hown hK hw.1 0 rfl rfl 0 (by decide) (hts _ lk_X5_sizeOf_0) (fun _ h9 => h9) rfl dX5_sizeOf_6 ?_
  refine lv_icmp_ge (tgt := 31) hx hb dX5_sizeOf_9 (by decide) (fun hc => ?_) (fun hc => ?_)
  · have hf := (if_pos hc).symm.trans hf
    refine lv_iload_n hx hb dX5_sizeOf_31 rfl (lv_at hl 2 rfl) ?_
    clear hk4; cases hf
    exact retI C hw dX5_sizeOf_32 rfl
  · have hf := (if_neg hc).symm.trans hf
    refine lv_aload_n hx hb dX5_sizeOf_12 rfl (lv_at hl 0 rfl) ?_
    refine va_get (ci := 5) (v := .ref a_P_house) (C := RX5) (T := TX5) (N := 10) hx hb hts in_X5_sizeOf_X5 hown hK hw.1 0 rfl rfl 4 (by decide) (hts _ lk_X5_sizeOf_1) (fun _ h9 => h9) rfl dX5_sizeOf_13 ?_
    refine lv_iload_n hx hb dX5_sizeOf_16 rfl (lv_at hl 3 rfl) ?_
    obtain ⟨hc_1, hf⟩ := gd_some hf
    refine va_iald hx hb hK hw.1 1 0 rfl rfl (inB_in hc_1) dX5_sizeOf_17 ?_
    refine lv_iload_n hx hb dX5_sizeOf_18 rfl (lv_at hl 1 rfl) ?_
    refine lv_icmp_ne (tgt := 25) hx hb dX5_sizeOf_19 (by decide) (fun hc => ?_) (fun hc => ?_)
    · have hf := (if_neg hc).symm.trans hf
      exact q_X5_sizeOf_25 C K a_P a_P_house a_P_free a_P_stuffed a_P_after a_P_weight a_P_need P_gloves P_matters P_pride P_coins P_house r0 k4 hk4 v1 v2 v3 hf hw (lv_sub hl [0, 1, 2, 3] rfl)
    · have hf := (if_pos hc).symm.trans hf
      obtain ⟨v2_2, e_v2_2, hf⟩ := bnd_some hf
      refine lv_iinc (v := v2_2) (lv' := [(2, .int v2_2), (0, .ref a_P), (1, .int v1), (3, .int v3)]) hx hb dX5_sizeOf_22 hl (k := 2) rfl (by rw [e_v2_2]; rfl) (by decide) rfl (fun ls hl => ?_)
      exact q_X5_sizeOf_25 C K a_P a_P_house a_P_free a_P_stuffed a_P_after a_P_weight a_P_need P_gloves P_matters P_pride P_coins P_house r0 k4 hk4 v1 v2_2 v3 hf hw (lv_sub hl [1, 2, 0, 3] rfl)
theorem qf_X5_sizeOf_4 {p : Program} {l : Launch} {e : Env} {s : State} {m : MethodId} {args : Array Value} {below : List Frame} {meth : Method} {c : Code} {sx : List sx_T} {D : va_G} {cI cZ cO : ClassId} {A : Nat → Prop} (C : Cx p s m args meth c RX5 wsX5_sizeOf cX5_sizeOf 4 (some .int)) (K : Kx sx D (tyL cI cZ cO) A s) (a_P : Nat) (a_P_house : Nat) (a_P_free : Nat) (a_P_stuffed : Nat) (a_P_after : Nat) (a_P_weight : Nat) (a_P_need : Nat) (P_gloves : Int32) (P_matters : Int32) (P_pride : Int32) (P_coins : Int32) (P_house : Nat → Int32) (r0 : Int32)    (n : Nat) : ∀ (v1 : Int32) (v2 : Int32) (v3 : Int32) (H : Heap) (locs : List Loc) (ls : Array Slot), f_X5_sizeOf_4 P_gloves P_house  n v1 v2 v3 = some r0 → Wo D A s [(oX5 a_P (.int P_gloves) (.int P_matters) (.int P_pride) (.int P_coins) (.ref a_P_house) (.ref a_P_free) (.ref a_P_stuffed) (.ref a_P_after) (.ref a_P_weight) (.ref a_P_need)), (a_P_house, .inl (cI, 6, .inl P_house))] H locs → lv_has ls 4 [(0, .ref a_P), (1, .int v1), (2, .int v2), (3, .int v3)] → W p l e rm_X5_sizeOf s m args below meth c H locs 0 0 (MQ below (QcI D A r0 [(oX5 a_P (.int P_gloves) (.int P_matters) (.int P_pride) (.int P_coins) (.ref a_P_house) (.ref a_P_free) (.ref a_P_stuffed) (.ref a_P_after) (.ref a_P_weight) (.ref a_P_need)), (a_P_house, .inl (cI, 6, .inl P_house))]) args s 0 0 A) (F0 m 4 ls []) := by
  induction n with
  | zero =>
    intro v1 v2 v3 H locs ls hf
    have h9 : (none : Option (Int32)) = some r0 := hf
    cases h9
  | succ n ih =>
    intro v1 v2 v3 H locs ls hf hw hl
    exact q_X5_sizeOf_4 C K a_P a_P_house a_P_free a_P_stuffed a_P_after a_P_weight a_P_need P_gloves P_matters P_pride P_coins P_house r0  (f_X5_sizeOf_4 P_gloves P_house  n) ih v1 v2 v3 hf hw hl
set_option maxHeartbeats 4000000 in
set_option maxRecDepth 100000 in
theorem q_X5_sizeOf_0 {p : Program} {l : Launch} {e : Env} {s : State} {m : MethodId} {args : Array Value} {below : List Frame} {meth : Method} {c : Code} {sx : List sx_T} {D : va_G} {cI cZ cO : ClassId} {A : Nat → Prop} (C : Cx p s m args meth c RX5 wsX5_sizeOf cX5_sizeOf 4 (some .int)) (K : Kx sx D (tyL cI cZ cO) A s) (a_P : Nat) (a_P_house : Nat) (a_P_free : Nat) (a_P_stuffed : Nat) (a_P_after : Nat) (a_P_weight : Nat) (a_P_need : Nat) (P_gloves : Int32) (P_matters : Int32) (P_pride : Int32) (P_coins : Int32) (P_house : Nat → Int32) (r0 : Int32)    (v1 : Int32) {H : Heap} {locs : List Loc} {ls : Array Slot} (hf : b_X5_sizeOf_0 P_gloves P_house  v1 = some r0) (hw : Wo D A s [(oX5 a_P (.int P_gloves) (.int P_matters) (.int P_pride) (.int P_coins) (.ref a_P_house) (.ref a_P_free) (.ref a_P_stuffed) (.ref a_P_after) (.ref a_P_weight) (.ref a_P_need)), (a_P_house, .inl (cI, 6, .inl P_house))] H locs) (hl : lv_has ls 4 [(0, .ref a_P), (1, .int v1)]) : W p l e rm_X5_sizeOf s m args below meth c H locs 0 0 (MQ below (QcI D A r0 [(oX5 a_P (.int P_gloves) (.int P_matters) (.int P_pride) (.int P_coins) (.ref a_P_house) (.ref a_P_free) (.ref a_P_stuffed) (.ref a_P_after) (.ref a_P_weight) (.ref a_P_need)), (a_P_house, .inl (cI, 6, .inl P_house))]) args s 0 0 A) (F0 m 0 ls []) := by
  obtain ⟨hx, hb, hml, hown, hts, hr, hlk⟩ := id C
  obtain ⟨hK, hX, hA⟩ := id K
  unfold b_X5_sizeOf_0 at hf
  refine lv_iconst (v := (0 : Int32)) hx hb dX5_sizeOf_0 (by decide) ?_
  refine lv_istore_n (lv' := [(2, .int (0 : Int32)), (0, .ref a_P), (1, .int v1)]) hx hb dX5_sizeOf_1 rfl hl (by decide) rfl (fun ls hl => ?_)
  refine lv_iconst (v := (0 : Int32)) hx hb dX5_sizeOf_2 (by decide) ?_
  refine lv_istore_n (lv' := [(3, .int (0 : Int32)), (2, .int (0 : Int32)), (0, .ref a_P), (1, .int v1)]) hx hb dX5_sizeOf_3 rfl hl (by decide) rfl (fun ls hl => ?_)
  exact qf_X5_sizeOf_4 C K a_P a_P_house a_P_free a_P_stuffed a_P_after a_P_weight a_P_need P_gloves P_matters P_pride P_coins P_house r0  fu v1 (0 : Int32) (0 : Int32) _ _ _ hf hw (lv_sub hl [2, 3, 1, 0] rfl)
set_option maxHeartbeats 4000000 in
set_option maxRecDepth 100000 in
theorem k_X5_sizeOf {l : Launch} {sx : List sx_T} {D : va_G} {cI cZ cO : ClassId} (a_P : Nat) (a_P_house : Nat) (a_P_free : Nat) (a_P_stuffed : Nat) (a_P_after : Nat) (a_P_weight : Nat) (a_P_need : Nat) (P_gloves : Int32) (P_matters : Int32) (P_pride : Int32) (P_coins : Int32) (P_house : Nat → Int32) (r0 : Int32) (p1 : Int32) (hF : f_X5_sizeOf P_gloves P_house p1 = some r0) : CtI l yX5_sizeOf wsX5_sizeOf rm_X5_sizeOf sx D (tyL cI cZ cO) [.ref a_P, .int p1] [(oX5 a_P (.int P_gloves) (.int P_matters) (.int P_pride) (.int P_coins) (.ref a_P_house) (.ref a_P_free) (.ref a_P_stuffed) (.ref a_P_after) (.ref a_P_weight) (.ref a_P_need)), (a_P_house, .inl (cI, 6, .inl P_house))] r0 [(oX5 a_P (.int P_gloves) (.int P_matters) (.int P_pride) (.int P_coins) (.ref a_P_house) (.ref a_P_free) (.ref a_P_stuffed) (.ref a_P_after) (.ref a_P_weight) (.ref a_P_need)), (a_P_house, .inl (cI, 6, .inl P_house))] := by
  refine ctI_of (cc := cX5_sizeOf) (ret := (some .int)) (maxL := 4) (by decide) rfl (Nat.le_of_ble_eq_true rfl) ?_
  intro p e s m below meth c A ls C K hw hl
  exact q_X5_sizeOf_0 C K a_P a_P_house a_P_free a_P_stuffed a_P_after a_P_weight a_P_need P_gloves P_matters P_pride P_coins P_house r0 p1 hF hw (lv_sub hl [0, 1] rfl)
abbrev rm_X5_copyFrom : Room := { frames := 1, cells := 0, slots := 0, locals := 26 }
theorem in_X5_copyFrom_X5 : ∀ w ∈ u_ws RX5 TX5 10, w ∈ wsX5_copyFrom := fun w h => List.mem_cons_of_mem _ (bi_wsX50 w h)
theorem lk_X5_copyFrom_0 : Cond.fieldLink RX5 30 "GloveHouses$Peace" "gloves" "I" ∈ wsX5_copyFrom := List.mem_cons_of_mem _ (bi_wsL_law0_r12 _ (List.mem_of_getElem? (i := 8) rfl))
theorem lk_X5_copyFrom_1 : Cond.fieldLink RX5 34 "GloveHouses$Peace" "matters" "I" ∈ wsX5_copyFrom := List.mem_cons_of_mem _ (bi_wsL_law0_r20 _ (List.mem_of_getElem? (i := 17) rfl))
theorem lk_X5_copyFrom_2 : Cond.fieldLink RX5 37 "GloveHouses$Peace" "pride" "I" ∈ wsX5_copyFrom := List.mem_cons_of_mem _ (bi_wsL_law0_r20 _ (List.mem_of_getElem? (i := 18) rfl))
theorem lk_X5_copyFrom_3 : Cond.fieldLink RX5 40 "GloveHouses$Peace" "coins" "I" ∈ wsX5_copyFrom := List.mem_cons_of_mem _ (bi_wsL_law0_r20 _ (List.mem_of_getElem? (i := 19) rfl))
theorem lk_X5_copyFrom_4 : Cond.fieldLink RX5 9 "GloveHouses$Peace" "house" "[I" ∈ wsX5_copyFrom := List.mem_cons_of_mem _ (bi_wsL_law0_r4 _ (List.mem_of_getElem? (i := 9) rfl))
theorem lk_X5_copyFrom_5 : Cond.methodLink RX5 43 arraycopyName ∈ wsX5_copyFrom := List.mem_cons_of_mem _ (bi_wsL_law0_r20 _ (List.mem_of_getElem? (i := 20) rfl))
theorem lk_X5_copyFrom_6 : Cond.native arraycopyName ∈ wsX5_copyFrom := List.mem_cons_of_mem _ (bi_wsL_law0_r10 _ (List.mem_of_getElem? (i := 21) rfl))
theorem lk_X5_copyFrom_7 : Cond.static arraycopyName ∈ wsX5_copyFrom := List.mem_cons_of_mem _ (bi_wsL_law0_r10 _ (List.mem_of_getElem? (i := 22) rfl))
theorem lk_X5_copyFrom_8 : Cond.initialized "java/lang/System" ∈ wsX5_copyFrom := List.mem_cons_of_mem _ (bi_wsL_law0_r10 _ (List.mem_of_getElem? (i := 23) rfl))
theorem lk_X5_copyFrom_9 : Cond.fieldLink RX5 15 "GloveHouses$Peace" "free" "[I" ∈ wsX5_copyFrom := List.mem_cons_of_mem _ (bi_wsL_law0_r4 _ (List.mem_of_getElem? (i := 10) rfl))
theorem lk_X5_copyFrom_10 : Cond.fieldLink RX5 18 "GloveHouses$Peace" "stuffed" "[I" ∈ wsX5_copyFrom := List.mem_cons_of_mem _ (bi_wsL_law0_r4 _ (List.mem_of_getElem? (i := 11) rfl))
theorem lk_X5_copyFrom_11 : Cond.fieldLink RX5 21 "GloveHouses$Peace" "after" "[I" ∈ wsX5_copyFrom := List.mem_cons_of_mem _ (bi_wsL_law0_r4 _ (List.mem_of_getElem? (i := 12) rfl))
theorem lk_X5_copyFrom_12 : Cond.fieldLink RX5 24 "GloveHouses$Peace" "weight" "[I" ∈ wsX5_copyFrom := List.mem_cons_of_mem _ (bi_wsL_law0_r4 _ (List.mem_of_getElem? (i := 13) rfl))
theorem lk_X5_copyFrom_13 : Cond.fieldLink RX5 27 "GloveHouses$Peace" "need" "[I" ∈ wsX5_copyFrom := List.mem_cons_of_mem _ (bi_wsL_law0_r4 _ (List.mem_of_getElem? (i := 14) rfl))
set_option maxHeartbeats 4000000 in
set_option maxRecDepth 100000 in
theorem q_X5_copyFrom_0 {p : Program} {l : Launch} {e : Env} {s : State} {m : MethodId} {args : Array Value} {below : List Frame} {meth : Method} {c : Code} {sx : List sx_T} {D : va_G} {cI cZ cO : ClassId} {A : Nat → Prop} (C : Cx p s m args meth c RX5 wsX5_copyFrom cX5_copyFrom 2 none) (K : Kx sx D (tyL cI cZ cO) A s) (a_P : Nat) (a_P_house : Nat) (a_P_free : Nat) (a_P_stuffed : Nat) (a_P_after : Nat) (a_P_weight : Nat) (a_P_need : Nat) (a_PO : Nat) (a_PO_house : Nat) (a_PO_free : Nat) (a_PO_stuffed : Nat) (a_PO_after : Nat) (a_PO_weight : Nat) (a_PO_need : Nat) (PO_gloves : Int32) (PO_matters : Int32) (PO_pride : Int32) (PO_coins : Int32) (PO_house : Nat → Int32) (PO_free : Nat → Int32) (PO_stuffed : Nat → Int32) (PO_after : Nat → Int32) (PO_weight : Nat → Int32) (PO_need : Nat → Int32) (o_P_gloves : Int32) (o_P_matters : Int32) (o_P_pride : Int32) (o_P_coins : Int32) (o_P_house : Nat → Int32) (o_P_free : Nat → Int32) (o_P_stuffed : Nat → Int32) (o_P_after : Nat → Int32) (o_P_weight : Nat → Int32) (o_P_need : Nat → Int32)    (P_gloves : Int32) (P_matters : Int32) (P_pride : Int32) (P_coins : Int32) (P_house : Nat → Int32) (P_free : Nat → Int32) (P_stuffed : Nat → Int32) (P_after : Nat → Int32) (P_weight : Nat → Int32) (P_need : Nat → Int32) {H : Heap} {locs : List Loc} {ls : Array Slot} (hf : b_X5_copyFrom_0 PO_gloves PO_matters PO_pride PO_coins PO_house PO_free PO_stuffed PO_after PO_weight PO_need  P_gloves P_matters P_pride P_coins P_house P_free P_stuffed P_after P_weight P_need = some (o_P_gloves, o_P_matters, o_P_pride, o_P_coins, o_P_house, o_P_free, o_P_stuffed, o_P_after, o_P_weight, o_P_need)) (hw : Wo D A s [(oX5 a_P (.int P_gloves) (.int P_matters) (.int P_pride) (.int P_coins) (.ref a_P_house) (.ref a_P_free) (.ref a_P_stuffed) (.ref a_P_after) (.ref a_P_weight) (.ref a_P_need)), (a_P_house, .inl (cI, 6, .inl P_house)), (a_P_free, .inl (cI, 6, .inl P_free)), (a_P_stuffed, .inl (cI, 6, .inl P_stuffed)), (a_P_after, .inl (cI, 6, .inl P_after)), (a_P_weight, .inl (cI, 5, .inl P_weight)), (a_P_need, .inl (cI, 5, .inl P_need)), (oX5 a_PO (.int PO_gloves) (.int PO_matters) (.int PO_pride) (.int PO_coins) (.ref a_PO_house) (.ref a_PO_free) (.ref a_PO_stuffed) (.ref a_PO_after) (.ref a_PO_weight) (.ref a_PO_need)), (a_PO_house, .inl (cI, 6, .inl PO_house)), (a_PO_free, .inl (cI, 6, .inl PO_free)), (a_PO_stuffed, .inl (cI, 6, .inl PO_stuffed)), (a_PO_after, .inl (cI, 6, .inl PO_after)), (a_PO_weight, .inl (cI, 5, .inl PO_weight)), (a_PO_need, .inl (cI, 5, .inl PO_need))] H locs) (hl : lv_has ls 2 [(0, .ref a_P), (1, .ref a_PO)]) : W p l e rm_X5_copyFrom s m args below meth c H locs 0 0 (MQ below (QcV D A [(oX5 a_P (.int o_P_gloves) (.int o_P_matters) (.int o_P_pride) (.int o_P_coins) (.ref a_P_house) (.ref a_P_free) (.ref a_P_stuffed) (.ref a_P_after) (.ref a_P_weight) (.ref a_P_need)), (a_P_house, .inl (cI, 6, .inl o_P_house)), (a_P_free, .inl (cI, 6, .inl o_P_free)), (a_P_stuffed, .inl (cI, 6, .inl o_P_stuffed)), (a_P_after, .inl (cI, 6, .inl o_P_after)), (a_P_weight, .inl (cI, 5, .inl o_P_weight)), (a_P_need, .inl (cI, 5, .inl o_P_need)), (oX5 a_PO (.int PO_gloves) (.int PO_matters) (.int PO_pride) (.int PO_coins) (.ref a_PO_house) (.ref a_PO_free) (.ref a_PO_stuffed) (.ref a_PO_after) (.ref a_PO_weight) (.ref a_PO_need)), (a_PO_house, .inl (cI, 6, .inl PO_house)), (a_PO_free, .inl (cI, 6, .inl PO_free)), (a_PO_stuffed, .inl (cI, 6, .inl PO_stuffed)), (a_PO_after, .inl (cI, 6, .inl PO_after)), (a_PO_weight, .inl (cI, 5, .inl PO_weight)), (a_PO_need, .inl (cI, 5, .inl PO_need))]) args s 0 0 A) (F0 m 0 ls []) := by
  obtain ⟨hx, hb, hml, hown, hts, hr, hlk⟩ := id C
  obtain ⟨hK, hX, hA⟩ := id K
  unfold b_X5_copyFrom_0 at hf
  refine lv_aload_n hx hb dX5_copyFrom_0 rfl (lv_at hl 0 rfl) ?_
  refine lv_aload_n hx hb dX5_copyFrom_1 rfl (lv_at hl 1 rfl) ?_
  refine va_get (ci := 5) (v := .int PO_gloves) (C := RX5) (T := TX5) (N := 10) hx hb hts in_X5_copyFrom_X5 hown hK hw.1 7 rfl rfl 0 (by decide) (hts _ lk_X5_copyFrom_0) (fun _ h9 => h9) rfl dX5_copyFrom_2 ?_
  refine va_put (ci := 5) (v := .int PO_gloves) (ty := .int) (C := RX5) (T := TX5) (N := 10) hx hb hts in_X5_copyFrom_X5 tyX5 tyX5_ok nmX5 hown hK hw.1 hw.2.1 hw.2.2 0 rfl rfl 0 (by decide) (hts _ lk_X5_copyFrom_0) (fun _ h9 => h9) rfl (by decide +kernel) rfl rfl (Nat.le_of_ble_eq_true rfl) dX5_copyFrom_5 (fun H locs hP hD hS => ?_)
  have hw : Wo D A s [(oX5 a_P (.int PO_gloves) (.int P_matters) (.int P_pride) (.int P_coins) (.ref a_P_house) (.ref a_P_free) (.ref a_P_stuffed) (.ref a_P_after) (.ref a_P_weight) (.ref a_P_need)), (a_P_house, .inl (cI, 6, .inl P_house)), (a_P_free, .inl (cI, 6, .inl P_free)), (a_P_stuffed, .inl (cI, 6, .inl P_stuffed)), (a_P_after, .inl (cI, 6, .inl P_after)), (a_P_weight, .inl (cI, 5, .inl P_weight)), (a_P_need, .inl (cI, 5, .inl P_need)), (oX5 a_PO (.int PO_gloves) (.int PO_matters) (.int PO_pride) (.int PO_coins) (.ref a_PO_house) (.ref a_PO_free) (.ref a_PO_stuffed) (.ref a_PO_after) (.ref a_PO_weight) (.ref a_PO_need)), (a_PO_house, .inl (cI, 6, .inl PO_house)), (a_PO_free, .inl (cI, 6, .inl PO_free)), (a_PO_stuffed, .inl (cI, 6, .inl PO_stuffed)), (a_PO_after, .inl (cI, 6, .inl PO_after)), (a_PO_weight, .inl (cI, 5, .inl PO_weight)), (a_PO_need, .inl (cI, 5, .inl PO_need))] H locs := ⟨hP, hD, hS⟩
  refine lv_aload_n hx hb dX5_copyFrom_8 rfl (lv_at hl 0 rfl) ?_
  refine lv_aload_n hx hb dX5_copyFrom_9 rfl (lv_at hl 1 rfl) ?_
  refine va_get (ci := 5) (v := .int PO_matters) (C := RX5) (T := TX5) (N := 10) hx hb hts in_X5_copyFrom_X5 hown hK hw.1 7 rfl rfl 1 (by decide) (hts _ lk_X5_copyFrom_1) (fun _ h9 => h9) rfl dX5_copyFrom_10 ?_
  refine va_put (ci := 5) (v := .int PO_matters) (ty := .int) (C := RX5) (T := TX5) (N := 10) hx hb hts in_X5_copyFrom_X5 tyX5 tyX5_ok nmX5 hown hK hw.1 hw.2.1 hw.2.2 0 rfl rfl 1 (by decide) (hts _ lk_X5_copyFrom_1) (fun _ h9 => h9) rfl (by decide +kernel) rfl rfl (Nat.le_of_ble_eq_true rfl) dX5_copyFrom_13 (fun H locs hP hD hS => ?_)
  have hw : Wo D A s [(oX5 a_P (.int PO_gloves) (.int PO_matters) (.int P_pride) (.int P_coins) (.ref a_P_house) (.ref a_P_free) (.ref a_P_stuffed) (.ref a_P_after) (.ref a_P_weight) (.ref a_P_need)), (a_P_house, .inl (cI, 6, .inl P_house)), (a_P_free, .inl (cI, 6, .inl P_free)), (a_P_stuffed, .inl (cI, 6, .inl P_stuffed)), (a_P_after, .inl (cI, 6, .inl P_after)), (a_P_weight, .inl (cI, 5, .inl P_weight)), (a_P_need, .inl (cI, 5, .inl P_need)), (oX5 a_PO (.int PO_gloves) (.int PO_matters) (.int PO_pride) (.int PO_coins) (.ref a_PO_house) (.ref a_PO_free) (.ref a_PO_stuffed) (.ref a_PO_after) (.ref a_PO_weight) (.ref a_PO_need)), (a_PO_house, .inl (cI, 6, .inl PO_house)), (a_PO_free, .inl (cI, 6, .inl PO_free)), (a_PO_stuffed, .inl (cI, 6, .inl PO_stuffed)), (a_PO_after, .inl (cI, 6, .inl PO_after)), (a_PO_weight, .inl (cI, 5, .inl PO_weight)), (a_PO_need, .inl (cI, 5, .inl PO_need))] H locs := ⟨hP, hD, hS⟩
  refine lv_aload_n hx hb dX5_copyFrom_16 rfl (lv_at hl 0 rfl) ?_
  refine lv_aload_n hx hb dX5_copyFrom_17 rfl (lv_at hl 1 rfl) ?_
  refine va_get (ci := 5) (v := .int PO_pride) (C := RX5) (T := TX5) (N := 10) hx hb hts in_X5_copyFrom_X5 hown hK hw.1 7 rfl rfl 2 (by decide) (hts _ lk_X5_copyFrom_2) (fun _ h9 => h9) rfl dX5_copyFrom_18 ?_
  refine va_put (ci := 5) (v := .int PO_pride) (ty := .int) (C := RX5) (T := TX5) (N := 10) hx hb hts in_X5_copyFrom_X5 tyX5 tyX5_ok nmX5 hown hK hw.1 hw.2.1 hw.2.2 0 rfl rfl 2 (by decide) (hts _ lk_X5_copyFrom_2) (fun _ h9 => h9) rfl (by decide +kernel) rfl rfl (Nat.le_of_ble_eq_true rfl) dX5_copyFrom_21 (fun H locs hP hD hS => ?_)
  have hw : Wo D A s [(oX5 a_P (.int PO_gloves) (.int PO_matters) (.int PO_pride) (.int P_coins) (.ref a_P_house) (.ref a_P_free) (.ref a_P_stuffed) (.ref a_P_after) (.ref a_P_weight) (.ref a_P_need)), (a_P_house, .inl (cI, 6, .inl P_house)), (a_P_free, .inl (cI, 6, .inl P_free)), (a_P_stuffed, .inl (cI, 6, .inl P_stuffed)), (a_P_after, .inl (cI, 6, .inl P_after)), (a_P_weight, .inl (cI, 5, .inl P_weight)), (a_P_need, .inl (cI, 5, .inl P_need)), (oX5 a_PO (.int PO_gloves) (.int PO_matters) (.int PO_pride) (.int PO_coins) (.ref a_PO_house) (.ref a_PO_free) (.ref a_PO_stuffed) (.ref a_PO_after) (.ref a_PO_weight) (.ref a_PO_need)), (a_PO_house, .inl (cI, 6, .inl PO_house)), (a_PO_free, .inl (cI, 6, .inl PO_free)), (a_PO_stuffed, .inl (cI, 6, .inl PO_stuffed)), (a_PO_after, .inl (cI, 6, .inl PO_after)), (a_PO_weight, .inl (cI, 5, .inl PO_weight)), (a_PO_need, .inl (cI, 5, .inl PO_need))] H locs := ⟨hP, hD, hS⟩
  refine lv_aload_n hx hb dX5_copyFrom_24 rfl (lv_at hl 0 rfl) ?_
  refine lv_aload_n hx hb dX5_copyFrom_25 rfl (lv_at hl 1 rfl) ?_
  refine va_get (ci := 5) (v := .int PO_coins) (C := RX5) (T := TX5) (N := 10) hx hb hts in_X5_copyFrom_X5 hown hK hw.1 7 rfl rfl 3 (by decide) (hts _ lk_X5_copyFrom_3) (fun _ h9 => h9) rfl dX5_copyFrom_26 ?_
  refine va_put (ci := 5) (v := .int PO_coins) (ty := .int) (C := RX5) (T := TX5) (N := 10) hx hb hts in_X5_copyFrom_X5 tyX5 tyX5_ok nmX5 hown hK hw.1 hw.2.1 hw.2.2 0 rfl rfl 3 (by decide) (hts _ lk_X5_copyFrom_3) (fun _ h9 => h9) rfl (by decide +kernel) rfl rfl (Nat.le_of_ble_eq_true rfl) dX5_copyFrom_29 (fun H locs hP hD hS => ?_)
  have hw : Wo D A s [(oX5 a_P (.int PO_gloves) (.int PO_matters) (.int PO_pride) (.int PO_coins) (.ref a_P_house) (.ref a_P_free) (.ref a_P_stuffed) (.ref a_P_after) (.ref a_P_weight) (.ref a_P_need)), (a_P_house, .inl (cI, 6, .inl P_house)), (a_P_free, .inl (cI, 6, .inl P_free)), (a_P_stuffed, .inl (cI, 6, .inl P_stuffed)), (a_P_after, .inl (cI, 6, .inl P_after)), (a_P_weight, .inl (cI, 5, .inl P_weight)), (a_P_need, .inl (cI, 5, .inl P_need)), (oX5 a_PO (.int PO_gloves) (.int PO_matters) (.int PO_pride) (.int PO_coins) (.ref a_PO_house) (.ref a_PO_free) (.ref a_PO_stuffed) (.ref a_PO_after) (.ref a_PO_weight) (.ref a_PO_need)), (a_PO_house, .inl (cI, 6, .inl PO_house)), (a_PO_free, .inl (cI, 6, .inl PO_free)), (a_PO_stuffed, .inl (cI, 6, .inl PO_stuffed)), (a_PO_after, .inl (cI, 6, .inl PO_after)), (a_PO_weight, .inl (cI, 5, .inl PO_weight)), (a_PO_need, .inl (cI, 5, .inl PO_need))] H locs := ⟨hP, hD, hS⟩
  refine lv_aload_n hx hb dX5_copyFrom_32 rfl (lv_at hl 1 rfl) ?_
  refine va_get (ci := 5) (v := .ref a_PO_house) (C := RX5) (T := TX5) (N := 10) hx hb hts in_X5_copyFrom_X5 hown hK hw.1 7 rfl rfl 4 (by decide) (hts _ lk_X5_copyFrom_4) (fun _ h9 => h9) rfl dX5_copyFrom_33 ?_
  refine lv_iconst (v := (0 : Int32)) hx hb dX5_copyFrom_36 (by decide) ?_
  refine lv_aload_n hx hb dX5_copyFrom_37 rfl (lv_at hl 0 rfl) ?_
  refine va_get (ci := 5) (v := .ref a_P_house) (C := RX5) (T := TX5) (N := 10) hx hb hts in_X5_copyFrom_X5 hown hK hw.1 0 rfl rfl 4 (by decide) (hts _ lk_X5_copyFrom_4) (fun _ h9 => h9) rfl dX5_copyFrom_38 ?_
  refine lv_iconst (v := (0 : Int32)) hx hb dX5_copyFrom_41 (by decide) ?_
  refine lv_bipush (v := (6 : Int32)) hx hb dX5_copyFrom_42 (by decide) ?_
  obtain ⟨hc_1, hf⟩ := gd_some hf
  obtain ⟨hc_2, hf⟩ := gd_some hf
  obtain ⟨P_house_3, e_P_house_3, hf⟩ := bnd_some hf
  refine va_copyi hx hb (hml.trans hl.1.symm) hown (hts _ lk_X5_copyFrom_5) (hts _ lk_X5_copyFrom_6) (hts _ lk_X5_copyFrom_7) (hts _ lk_X5_copyFrom_8) hK hw.1 hw.2.1 hw.2.2 8 1 0 0 rfl rfl rfl rfl rfl (spB_sp hc_1).1 (spB_sp hc_2).1 (spB_sp hc_1).2.1 (spB_sp hc_1).2.2 (spB_sp hc_2).2.2 (fun _ _ => rfl) (Nat.le_of_ble_eq_true rfl) (Nat.le_of_ble_eq_true rfl) dX5_copyFrom_44 (fun H locs hP hD hS => ?_)
  have hw : Wo D A s [(oX5 a_P (.int PO_gloves) (.int PO_matters) (.int PO_pride) (.int PO_coins) (.ref a_P_house) (.ref a_P_free) (.ref a_P_stuffed) (.ref a_P_after) (.ref a_P_weight) (.ref a_P_need)), (a_P_house, .inl (cI, 6, .inl P_house_3)), (a_P_free, .inl (cI, 6, .inl P_free)), (a_P_stuffed, .inl (cI, 6, .inl P_stuffed)), (a_P_after, .inl (cI, 6, .inl P_after)), (a_P_weight, .inl (cI, 5, .inl P_weight)), (a_P_need, .inl (cI, 5, .inl P_need)), (oX5 a_PO (.int PO_gloves) (.int PO_matters) (.int PO_pride) (.int PO_coins) (.ref a_PO_house) (.ref a_PO_free) (.ref a_PO_stuffed) (.ref a_PO_after) (.ref a_PO_weight) (.ref a_PO_need)), (a_PO_house, .inl (cI, 6, .inl PO_house)), (a_PO_free, .inl (cI, 6, .inl PO_free)), (a_PO_stuffed, .inl (cI, 6, .inl PO_stuffed)), (a_PO_after, .inl (cI, 6, .inl PO_after)), (a_PO_weight, .inl (cI, 5, .inl PO_weight)), (a_PO_need, .inl (cI, 5, .inl PO_need))] H locs := by rw [e_P_house_3]; exact ⟨hP, hD, hS⟩
  refine lv_aload_n hx hb dX5_copyFrom_47 rfl (lv_at hl 1 rfl) ?_
  refine va_get (ci := 5) (v := .ref a_PO_free) (C := RX5) (T := TX5) (N := 10) hx hb hts in_X5_copyFrom_X5 hown hK hw.1 7 rfl rfl 5 (by decide) (hts _ lk_X5_copyFrom_9) (fun _ h9 => h9) rfl dX5_copyFrom_48 ?_
  refine lv_iconst (v := (0 : Int32)) hx hb dX5_copyFrom_51 (by decide) ?_
  refine lv_aload_n hx hb dX5_copyFrom_52 rfl (lv_at hl 0 rfl) ?_
  refine va_get (ci := 5) (v := .ref a_P_free) (C := RX5) (T := TX5) (N := 10) hx hb hts in_X5_copyFrom_X5 hown hK hw.1 0 rfl rfl 5 (by decide) (hts _ lk_X5_copyFrom_9) (fun _ h9 => h9) rfl dX5_copyFrom_53 ?_
  refine lv_iconst (v := (0 : Int32)) hx hb dX5_copyFrom_56 (by decide) ?_
  refine lv_bipush (v := (6 : Int32)) hx hb dX5_copyFrom_57 (by decide) ?_
  obtain ⟨hc_4, hf⟩ := gd_some hf
  obtain ⟨hc_5, hf⟩ := gd_some hf
  obtain ⟨P_free_6, e_P_free_6, hf⟩ := bnd_some hf
  refine va_copyi hx hb (hml.trans hl.1.symm) hown (hts _ lk_X5_copyFrom_5) (hts _ lk_X5_copyFrom_6) (hts _ lk_X5_copyFrom_7) (hts _ lk_X5_copyFrom_8) hK hw.1 hw.2.1 hw.2.2 9 2 0 0 rfl rfl rfl rfl rfl (spB_sp hc_4).1 (spB_sp hc_5).1 (spB_sp hc_4).2.1 (spB_sp hc_4).2.2 (spB_sp hc_5).2.2 (fun _ _ => rfl) (Nat.le_of_ble_eq_true rfl) (Nat.le_of_ble_eq_true rfl) dX5_copyFrom_59 (fun H locs hP hD hS => ?_)
  have hw : Wo D A s [(oX5 a_P (.int PO_gloves) (.int PO_matters) (.int PO_pride) (.int PO_coins) (.ref a_P_house) (.ref a_P_free) (.ref a_P_stuffed) (.ref a_P_after) (.ref a_P_weight) (.ref a_P_need)), (a_P_house, .inl (cI, 6, .inl P_house_3)), (a_P_free, .inl (cI, 6, .inl P_free_6)), (a_P_stuffed, .inl (cI, 6, .inl P_stuffed)), (a_P_after, .inl (cI, 6, .inl P_after)), (a_P_weight, .inl (cI, 5, .inl P_weight)), (a_P_need, .inl (cI, 5, .inl P_need)), (oX5 a_PO (.int PO_gloves) (.int PO_matters) (.int PO_pride) (.int PO_coins) (.ref a_PO_house) (.ref a_PO_free) (.ref a_PO_stuffed) (.ref a_PO_after) (.ref a_PO_weight) (.ref a_PO_need)), (a_PO_house, .inl (cI, 6, .inl PO_house)), (a_PO_free, .inl (cI, 6, .inl PO_free)), (a_PO_stuffed, .inl (cI, 6, .inl PO_stuffed)), (a_PO_after, .inl (cI, 6, .inl PO_after)), (a_PO_weight, .inl (cI, 5, .inl PO_weight)), (a_PO_need, .inl (cI, 5, .inl PO_need))] H locs := by rw [e_P_free_6]; exact ⟨hP, hD, hS⟩
  refine lv_aload_n hx hb dX5_copyFrom_62 rfl (lv_at hl 1 rfl) ?_
  refine va_get (ci := 5) (v := .ref a_PO_stuffed) (C := RX5) (T := TX5) (N := 10) hx hb hts in_X5_copyFrom_X5 hown hK hw.1 7 rfl rfl 6 (by decide) (hts _ lk_X5_copyFrom_10) (fun _ h9 => h9) rfl dX5_copyFrom_63 ?_
  refine lv_iconst (v := (0 : Int32)) hx hb dX5_copyFrom_66 (by decide) ?_
  refine lv_aload_n hx hb dX5_copyFrom_67 rfl (lv_at hl 0 rfl) ?_
  refine va_get (ci := 5) (v := .ref a_P_stuffed) (C := RX5) (T := TX5) (N := 10) hx hb hts in_X5_copyFrom_X5 hown hK hw.1 0 rfl rfl 6 (by decide) (hts _ lk_X5_copyFrom_10) (fun _ h9 => h9) rfl dX5_copyFrom_68 ?_
  refine lv_iconst (v := (0 : Int32)) hx hb dX5_copyFrom_71 (by decide) ?_
  refine lv_bipush (v := (6 : Int32)) hx hb dX5_copyFrom_72 (by decide) ?_
  obtain ⟨hc_7, hf⟩ := gd_some hf
  obtain ⟨hc_8, hf⟩ := gd_some hf
  obtain ⟨P_stuffed_9, e_P_stuffed_9, hf⟩ := bnd_some hf
  refine va_copyi hx hb (hml.trans hl.1.symm) hown (hts _ lk_X5_copyFrom_5) (hts _ lk_X5_copyFrom_6) (hts _ lk_X5_copyFrom_7) (hts _ lk_X5_copyFrom_8) hK hw.1 hw.2.1 hw.2.2 10 3 0 0 rfl rfl rfl rfl rfl (spB_sp hc_7).1 (spB_sp hc_8).1 (spB_sp hc_7).2.1 (spB_sp hc_7).2.2 (spB_sp hc_8).2.2 (fun _ _ => rfl) (Nat.le_of_ble_eq_true rfl) (Nat.le_of_ble_eq_true rfl) dX5_copyFrom_74 (fun H locs hP hD hS => ?_)
  have hw : Wo D A s [(oX5 a_P (.int PO_gloves) (.int PO_matters) (.int PO_pride) (.int PO_coins) (.ref a_P_house) (.ref a_P_free) (.ref a_P_stuffed) (.ref a_P_after) (.ref a_P_weight) (.ref a_P_need)), (a_P_house, .inl (cI, 6, .inl P_house_3)), (a_P_free, .inl (cI, 6, .inl P_free_6)), (a_P_stuffed, .inl (cI, 6, .inl P_stuffed_9)), (a_P_after, .inl (cI, 6, .inl P_after)), (a_P_weight, .inl (cI, 5, .inl P_weight)), (a_P_need, .inl (cI, 5, .inl P_need)), (oX5 a_PO (.int PO_gloves) (.int PO_matters) (.int PO_pride) (.int PO_coins) (.ref a_PO_house) (.ref a_PO_free) (.ref a_PO_stuffed) (.ref a_PO_after) (.ref a_PO_weight) (.ref a_PO_need)), (a_PO_house, .inl (cI, 6, .inl PO_house)), (a_PO_free, .inl (cI, 6, .inl PO_free)), (a_PO_stuffed, .inl (cI, 6, .inl PO_stuffed)), (a_PO_after, .inl (cI, 6, .inl PO_after)), (a_PO_weight, .inl (cI, 5, .inl PO_weight)), (a_PO_need, .inl (cI, 5, .inl PO_need))] H locs := by rw [e_P_stuffed_9]; exact ⟨hP, hD, hS⟩
  refine lv_aload_n hx hb dX5_copyFrom_77 rfl (lv_at hl 1 rfl) ?_
  refine va_get (ci := 5) (v := .ref a_PO_after) (C := RX5) (T := TX5) (N := 10) hx hb hts in_X5_copyFrom_X5 hown hK hw.1 7 rfl rfl 7 (by decide) (hts _ lk_X5_copyFrom_11) (fun _ h9 => h9) rfl dX5_copyFrom_78 ?_
  refine lv_iconst (v := (0 : Int32)) hx hb dX5_copyFrom_81 (by decide) ?_
  refine lv_aload_n hx hb dX5_copyFrom_82 rfl (lv_at hl 0 rfl) ?_
  refine va_get (ci := 5) (v := .ref a_P_after) (C := RX5) (T := TX5) (N := 10) hx hb hts in_X5_copyFrom_X5 hown hK hw.1 0 rfl rfl 7 (by decide) (hts _ lk_X5_copyFrom_11) (fun _ h9 => h9) rfl dX5_copyFrom_83 ?_
  refine lv_iconst (v := (0 : Int32)) hx hb dX5_copyFrom_86 (by decide) ?_
  refine lv_bipush (v := (6 : Int32)) hx hb dX5_copyFrom_87 (by decide) ?_
  obtain ⟨hc_10, hf⟩ := gd_some hf
  obtain ⟨hc_11, hf⟩ := gd_some hf
  obtain ⟨P_after_12, e_P_after_12, hf⟩ := bnd_some hf
  refine va_copyi hx hb (hml.trans hl.1.symm) hown (hts _ lk_X5_copyFrom_5) (hts _ lk_X5_copyFrom_6) (hts _ lk_X5_copyFrom_7) (hts _ lk_X5_copyFrom_8) hK hw.1 hw.2.1 hw.2.2 11 4 0 0 rfl rfl rfl rfl rfl (spB_sp hc_10).1 (spB_sp hc_11).1 (spB_sp hc_10).2.1 (spB_sp hc_10).2.2 (spB_sp hc_11).2.2 (fun _ _ => rfl) (Nat.le_of_ble_eq_true rfl) (Nat.le_of_ble_eq_true rfl) dX5_copyFrom_89 (fun H locs hP hD hS => ?_)
  have hw : Wo D A s [(oX5 a_P (.int PO_gloves) (.int PO_matters) (.int PO_pride) (.int PO_coins) (.ref a_P_house) (.ref a_P_free) (.ref a_P_stuffed) (.ref a_P_after) (.ref a_P_weight) (.ref a_P_need)), (a_P_house, .inl (cI, 6, .inl P_house_3)), (a_P_free, .inl (cI, 6, .inl P_free_6)), (a_P_stuffed, .inl (cI, 6, .inl P_stuffed_9)), (a_P_after, .inl (cI, 6, .inl P_after_12)), (a_P_weight, .inl (cI, 5, .inl P_weight)), (a_P_need, .inl (cI, 5, .inl P_need)), (oX5 a_PO (.int PO_gloves) (.int PO_matters) (.int PO_pride) (.int PO_coins) (.ref a_PO_house) (.ref a_PO_free) (.ref a_PO_stuffed) (.ref a_PO_after) (.ref a_PO_weight) (.ref a_PO_need)), (a_PO_house, .inl (cI, 6, .inl PO_house)), (a_PO_free, .inl (cI, 6, .inl PO_free)), (a_PO_stuffed, .inl (cI, 6, .inl PO_stuffed)), (a_PO_after, .inl (cI, 6, .inl PO_after)), (a_PO_weight, .inl (cI, 5, .inl PO_weight)), (a_PO_need, .inl (cI, 5, .inl PO_need))] H locs := by rw [e_P_after_12]; exact ⟨hP, hD, hS⟩
  refine lv_aload_n hx hb dX5_copyFrom_92 rfl (lv_at hl 1 rfl) ?_
  refine va_get (ci := 5) (v := .ref a_PO_weight) (C := RX5) (T := TX5) (N := 10) hx hb hts in_X5_copyFrom_X5 hown hK hw.1 7 rfl rfl 8 (by decide) (hts _ lk_X5_copyFrom_12) (fun _ h9 => h9) rfl dX5_copyFrom_93 ?_
  refine lv_iconst (v := (0 : Int32)) hx hb dX5_copyFrom_96 (by decide) ?_
  refine lv_aload_n hx hb dX5_copyFrom_97 rfl (lv_at hl 0 rfl) ?_
  refine va_get (ci := 5) (v := .ref a_P_weight) (C := RX5) (T := TX5) (N := 10) hx hb hts in_X5_copyFrom_X5 hown hK hw.1 0 rfl rfl 8 (by decide) (hts _ lk_X5_copyFrom_12) (fun _ h9 => h9) rfl dX5_copyFrom_98 ?_
  refine lv_iconst (v := (0 : Int32)) hx hb dX5_copyFrom_101 (by decide) ?_
  refine lv_iconst (v := (5 : Int32)) hx hb dX5_copyFrom_102 (by decide) ?_
  obtain ⟨hc_13, hf⟩ := gd_some hf
  obtain ⟨hc_14, hf⟩ := gd_some hf
  obtain ⟨P_weight_15, e_P_weight_15, hf⟩ := bnd_some hf
  refine va_copyi hx hb (hml.trans hl.1.symm) hown (hts _ lk_X5_copyFrom_5) (hts _ lk_X5_copyFrom_6) (hts _ lk_X5_copyFrom_7) (hts _ lk_X5_copyFrom_8) hK hw.1 hw.2.1 hw.2.2 12 5 0 0 rfl rfl rfl rfl rfl (spB_sp hc_13).1 (spB_sp hc_14).1 (spB_sp hc_13).2.1 (spB_sp hc_13).2.2 (spB_sp hc_14).2.2 (fun _ _ => rfl) (Nat.le_of_ble_eq_true rfl) (Nat.le_of_ble_eq_true rfl) dX5_copyFrom_103 (fun H locs hP hD hS => ?_)
  have hw : Wo D A s [(oX5 a_P (.int PO_gloves) (.int PO_matters) (.int PO_pride) (.int PO_coins) (.ref a_P_house) (.ref a_P_free) (.ref a_P_stuffed) (.ref a_P_after) (.ref a_P_weight) (.ref a_P_need)), (a_P_house, .inl (cI, 6, .inl P_house_3)), (a_P_free, .inl (cI, 6, .inl P_free_6)), (a_P_stuffed, .inl (cI, 6, .inl P_stuffed_9)), (a_P_after, .inl (cI, 6, .inl P_after_12)), (a_P_weight, .inl (cI, 5, .inl P_weight_15)), (a_P_need, .inl (cI, 5, .inl P_need)), (oX5 a_PO (.int PO_gloves) (.int PO_matters) (.int PO_pride) (.int PO_coins) (.ref a_PO_house) (.ref a_PO_free) (.ref a_PO_stuffed) (.ref a_PO_after) (.ref a_PO_weight) (.ref a_PO_need)), (a_PO_house, .inl (cI, 6, .inl PO_house)), (a_PO_free, .inl (cI, 6, .inl PO_free)), (a_PO_stuffed, .inl (cI, 6, .inl PO_stuffed)), (a_PO_after, .inl (cI, 6, .inl PO_after)), (a_PO_weight, .inl (cI, 5, .inl PO_weight)), (a_PO_need, .inl (cI, 5, .inl PO_need))] H locs := by rw [e_P_weight_15]; exact ⟨hP, hD, hS⟩
  refine lv_aload_n hx hb dX5_copyFrom_106 rfl (lv_at hl 1 rfl) ?_
  refine va_get (ci := 5) (v := .ref a_PO_need) (C := RX5) (T := TX5) (N := 10) hx hb hts in_X5_copyFrom_X5 hown hK hw.1 7 rfl rfl 9 (by decide) (hts _ lk_X5_copyFrom_13) (fun _ h9 => h9) rfl dX5_copyFrom_107 ?_
  refine lv_iconst (v := (0 : Int32)) hx hb dX5_copyFrom_110 (by decide) ?_
  refine lv_aload_n hx hb dX5_copyFrom_111 rfl (lv_at hl 0 rfl) ?_
  refine va_get (ci := 5) (v := .ref a_P_need) (C := RX5) (T := TX5) (N := 10) hx hb hts in_X5_copyFrom_X5 hown hK hw.1 0 rfl rfl 9 (by decide) (hts _ lk_X5_copyFrom_13) (fun _ h9 => h9) rfl dX5_copyFrom_112 ?_
  refine lv_iconst (v := (0 : Int32)) hx hb dX5_copyFrom_115 (by decide) ?_
  refine lv_iconst (v := (5 : Int32)) hx hb dX5_copyFrom_116 (by decide) ?_
  obtain ⟨hc_16, hf⟩ := gd_some hf
  obtain ⟨hc_17, hf⟩ := gd_some hf
  obtain ⟨P_need_18, e_P_need_18, hf⟩ := bnd_some hf
  refine va_copyi hx hb (hml.trans hl.1.symm) hown (hts _ lk_X5_copyFrom_5) (hts _ lk_X5_copyFrom_6) (hts _ lk_X5_copyFrom_7) (hts _ lk_X5_copyFrom_8) hK hw.1 hw.2.1 hw.2.2 13 6 0 0 rfl rfl rfl rfl rfl (spB_sp hc_16).1 (spB_sp hc_17).1 (spB_sp hc_16).2.1 (spB_sp hc_16).2.2 (spB_sp hc_17).2.2 (fun _ _ => rfl) (Nat.le_of_ble_eq_true rfl) (Nat.le_of_ble_eq_true rfl) dX5_copyFrom_117 (fun H locs hP hD hS => ?_)
  have hw : Wo D A s [(oX5 a_P (.int PO_gloves) (.int PO_matters) (.int PO_pride) (.int PO_coins) (.ref a_P_house) (.ref a_P_free) (.ref a_P_stuffed) (.ref a_P_after) (.ref a_P_weight) (.ref a_P_need)), (a_P_house, .inl (cI, 6, .inl P_house_3)), (a_P_free, .inl (cI, 6, .inl P_free_6)), (a_P_stuffed, .inl (cI, 6, .inl P_stuffed_9)), (a_P_after, .inl (cI, 6, .inl P_after_12)), (a_P_weight, .inl (cI, 5, .inl P_weight_15)), (a_P_need, .inl (cI, 5, .inl P_need_18)), (oX5 a_PO (.int PO_gloves) (.int PO_matters) (.int PO_pride) (.int PO_coins) (.ref a_PO_house) (.ref a_PO_free) (.ref a_PO_stuffed) (.ref a_PO_after) (.ref a_PO_weight) (.ref a_PO_need)), (a_PO_house, .inl (cI, 6, .inl PO_house)), (a_PO_free, .inl (cI, 6, .inl PO_free)), (a_PO_stuffed, .inl (cI, 6, .inl PO_stuffed)), (a_PO_after, .inl (cI, 6, .inl PO_after)), (a_PO_weight, .inl (cI, 5, .inl PO_weight)), (a_PO_need, .inl (cI, 5, .inl PO_need))] H locs := by rw [e_P_need_18]; exact ⟨hP, hD, hS⟩
  cases hf
  exact retV C hw dX5_copyFrom_120
set_option maxHeartbeats 4000000 in
set_option maxRecDepth 100000 in
theorem k_X5_copyFrom {l : Launch} {sx : List sx_T} {D : va_G} {cI cZ cO : ClassId} (a_P : Nat) (a_P_house : Nat) (a_P_free : Nat) (a_P_stuffed : Nat) (a_P_after : Nat) (a_P_weight : Nat) (a_P_need : Nat) (a_PO : Nat) (a_PO_house : Nat) (a_PO_free : Nat) (a_PO_stuffed : Nat) (a_PO_after : Nat) (a_PO_weight : Nat) (a_PO_need : Nat) (PO_gloves : Int32) (PO_matters : Int32) (PO_pride : Int32) (PO_coins : Int32) (PO_house : Nat → Int32) (PO_free : Nat → Int32) (PO_stuffed : Nat → Int32) (PO_after : Nat → Int32) (PO_weight : Nat → Int32) (PO_need : Nat → Int32) (o_P_gloves : Int32) (o_P_matters : Int32) (o_P_pride : Int32) (o_P_coins : Int32) (o_P_house : Nat → Int32) (o_P_free : Nat → Int32) (o_P_stuffed : Nat → Int32) (o_P_after : Nat → Int32) (o_P_weight : Nat → Int32) (o_P_need : Nat → Int32) (P_gloves : Int32) (P_matters : Int32) (P_pride : Int32) (P_coins : Int32) (P_house : Nat → Int32) (P_free : Nat → Int32) (P_stuffed : Nat → Int32) (P_after : Nat → Int32) (P_weight : Nat → Int32) (P_need : Nat → Int32) (hF : f_X5_copyFrom PO_gloves PO_matters PO_pride PO_coins PO_house PO_free PO_stuffed PO_after PO_weight PO_need P_gloves P_matters P_pride P_coins P_house P_free P_stuffed P_after P_weight P_need = some (o_P_gloves, o_P_matters, o_P_pride, o_P_coins, o_P_house, o_P_free, o_P_stuffed, o_P_after, o_P_weight, o_P_need)) : CtV l yX5_copyFrom wsX5_copyFrom rm_X5_copyFrom sx D (tyL cI cZ cO) [.ref a_P, .ref a_PO] [(oX5 a_P (.int P_gloves) (.int P_matters) (.int P_pride) (.int P_coins) (.ref a_P_house) (.ref a_P_free) (.ref a_P_stuffed) (.ref a_P_after) (.ref a_P_weight) (.ref a_P_need)), (a_P_house, .inl (cI, 6, .inl P_house)), (a_P_free, .inl (cI, 6, .inl P_free)), (a_P_stuffed, .inl (cI, 6, .inl P_stuffed)), (a_P_after, .inl (cI, 6, .inl P_after)), (a_P_weight, .inl (cI, 5, .inl P_weight)), (a_P_need, .inl (cI, 5, .inl P_need)), (oX5 a_PO (.int PO_gloves) (.int PO_matters) (.int PO_pride) (.int PO_coins) (.ref a_PO_house) (.ref a_PO_free) (.ref a_PO_stuffed) (.ref a_PO_after) (.ref a_PO_weight) (.ref a_PO_need)), (a_PO_house, .inl (cI, 6, .inl PO_house)), (a_PO_free, .inl (cI, 6, .inl PO_free)), (a_PO_stuffed, .inl (cI, 6, .inl PO_stuffed)), (a_PO_after, .inl (cI, 6, .inl PO_after)), (a_PO_weight, .inl (cI, 5, .inl PO_weight)), (a_PO_need, .inl (cI, 5, .inl PO_need))] [(oX5 a_P (.int o_P_gloves) (.int o_P_matters) (.int o_P_pride) (.int o_P_coins) (.ref a_P_house) (.ref a_P_free) (.ref a_P_stuffed) (.ref a_P_after) (.ref a_P_weight) (.ref a_P_need)), (a_P_house, .inl (cI, 6, .inl o_P_house)), (a_P_free, .inl (cI, 6, .inl o_P_free)), (a_P_stuffed, .inl (cI, 6, .inl o_P_stuffed)), (a_P_after, .inl (cI, 6, .inl o_P_after)), (a_P_weight, .inl (cI, 5, .inl o_P_weight)), (a_P_need, .inl (cI, 5, .inl o_P_need)), (oX5 a_PO (.int PO_gloves) (.int PO_matters) (.int PO_pride) (.int PO_coins) (.ref a_PO_house) (.ref a_PO_free) (.ref a_PO_stuffed) (.ref a_PO_after) (.ref a_PO_weight) (.ref a_PO_need)), (a_PO_house, .inl (cI, 6, .inl PO_house)), (a_PO_free, .inl (cI, 6, .inl PO_free)), (a_PO_stuffed, .inl (cI, 6, .inl PO_stuffed)), (a_PO_after, .inl (cI, 6, .inl PO_after)), (a_PO_weight, .inl (cI, 5, .inl PO_weight)), (a_PO_need, .inl (cI, 5, .inl PO_need))] := by
  refine ctV_of (cc := cX5_copyFrom) (ret := none) (maxL := 2) (by decide) rfl (Nat.le_of_ble_eq_true rfl) ?_
  intro p e s m below meth c A ls C K hw hl
  exact q_X5_copyFrom_0 C K a_P a_P_house a_P_free a_P_stuffed a_P_after a_P_weight a_P_need a_PO a_PO_house a_PO_free a_PO_stuffed a_PO_after a_PO_weight a_PO_need PO_gloves PO_matters PO_pride PO_coins PO_house PO_free PO_stuffed PO_after PO_weight PO_need o_P_gloves o_P_matters o_P_pride o_P_coins o_P_house o_P_free o_P_stuffed o_P_after o_P_weight o_P_need P_gloves P_matters P_pride P_coins P_house P_free P_stuffed P_after P_weight P_need hF hw (lv_sub hl [0, 1] rfl)
abbrev rm_X5_hasGlove : Room := { frames := 0, cells := 0, slots := 0, locals := 0 }
theorem in_X5_hasGlove_X5 : ∀ w ∈ u_ws RX5 TX5 10, w ∈ wsX5_hasGlove := fun w h => List.mem_cons_of_mem _ (bi_wsX50 w h)
theorem lk_X5_hasGlove_0 : Cond.fieldLink RX5 30 "GloveHouses$Peace" "gloves" "I" ∈ wsX5_hasGlove := List.mem_cons_of_mem _ (bi_wsL_law0_r12 _ (List.mem_of_getElem? (i := 8) rfl))
set_option maxHeartbeats 4000000 in
set_option maxRecDepth 100000 in
theorem q_X5_hasGlove_0 {p : Program} {l : Launch} {e : Env} {s : State} {m : MethodId} {args : Array Value} {below : List Frame} {meth : Method} {c : Code} {sx : List sx_T} {D : va_G} {cI cZ cO : ClassId} {A : Nat → Prop} (C : Cx p s m args meth c RX5 wsX5_hasGlove cX5_hasGlove 2 (some .boolean)) (K : Kx sx D (tyL cI cZ cO) A s) (a_P : Nat) (a_P_house : Nat) (a_P_free : Nat) (a_P_stuffed : Nat) (a_P_after : Nat) (a_P_weight : Nat) (a_P_need : Nat) (P_gloves : Int32) (P_matters : Int32) (P_pride : Int32) (P_coins : Int32) (r0 : Int32)    (v1 : Int32) {H : Heap} {locs : List Loc} {ls : Array Slot} (hf : b_X5_hasGlove_0 P_gloves  v1 = some r0) (hw : Wo D A s [(oX5 a_P (.int P_gloves) (.int P_matters) (.int P_pride) (.int P_coins) (.ref a_P_house) (.ref a_P_free) (.ref a_P_stuffed) (.ref a_P_after) (.ref a_P_weight) (.ref a_P_need))] H locs) (hl : lv_has ls 2 [(0, .ref a_P), (1, .int v1)]) : W p l e rm_X5_hasGlove s m args below meth c H locs 0 0 (MQ below (QcI D A r0 [(oX5 a_P (.int P_gloves) (.int P_matters) (.int P_pride) (.int P_coins) (.ref a_P_house) (.ref a_P_free) (.ref a_P_stuffed) (.ref a_P_after) (.ref a_P_weight) (.ref a_P_need))]) args s 0 0 A) (F0 m 0 ls []) := by
  obtain ⟨hx, hb, hml, hown, hts, hr, hlk⟩ := id C
  obtain ⟨hK, hX, hA⟩ := id K
  unfold b_X5_hasGlove_0 at hf
  refine lv_iload_n hx hb dX5_hasGlove_0 rfl (lv_at hl 1 rfl) ?_
  refine lv_if_lt (tgt := 16) hx hb dX5_hasGlove_1 (by decide) (fun hc => ?_) (fun hc => ?_)
  · have hf := (if_pos hc).symm.trans hf
    refine lv_iconst (v := (0 : Int32)) hx hb dX5_hasGlove_16 (by decide) ?_
    cases hf
    exact retZ C hw dX5_hasGlove_17 (by decide) rfl
  · have hf := (if_neg hc).symm.trans hf
    refine lv_iload_n hx hb dX5_hasGlove_4 rfl (lv_at hl 1 rfl) ?_
    refine lv_aload_n hx hb dX5_hasGlove_5 rfl (lv_at hl 0 rfl) ?_
    refine va_get (ci := 5) (v := .int P_gloves) (C := RX5) (T := TX5) (N := 10) hx hb hts in_X5_hasGlove_X5 hown hK hw.1 0 rfl rfl 0 (by decide) (hts _ lk_X5_hasGlove_0) (fun _ h9 => h9) rfl dX5_hasGlove_6 ?_
    refine lv_icmp_ge (tgt := 16) hx hb dX5_hasGlove_9 (by decide) (fun hc => ?_) (fun hc => ?_)
    · have hf := (if_pos hc).symm.trans hf
      refine lv_iconst (v := (0 : Int32)) hx hb dX5_hasGlove_16 (by decide) ?_
      cases hf
      exact retZ C hw dX5_hasGlove_17 (by decide) rfl
    · have hf := (if_neg hc).symm.trans hf
      refine lv_iconst (v := (1 : Int32)) hx hb dX5_hasGlove_12 (by decide) ?_
      refine lv_goto (tgt := 17) hx hb dX5_hasGlove_13 (by decide) ?_
      cases hf
      exact retZ C hw dX5_hasGlove_17 (by decide) rfl
set_option maxHeartbeats 4000000 in
set_option maxRecDepth 100000 in
theorem k_X5_hasGlove {l : Launch} {sx : List sx_T} {D : va_G} {cI cZ cO : ClassId} (a_P : Nat) (a_P_house : Nat) (a_P_free : Nat) (a_P_stuffed : Nat) (a_P_after : Nat) (a_P_weight : Nat) (a_P_need : Nat) (P_gloves : Int32) (P_matters : Int32) (P_pride : Int32) (P_coins : Int32) (r0 : Int32) (p1 : Int32) (hF : f_X5_hasGlove P_gloves p1 = some r0) : CtI l yX5_hasGlove wsX5_hasGlove rm_X5_hasGlove sx D (tyL cI cZ cO) [.ref a_P, .int p1] [(oX5 a_P (.int P_gloves) (.int P_matters) (.int P_pride) (.int P_coins) (.ref a_P_house) (.ref a_P_free) (.ref a_P_stuffed) (.ref a_P_after) (.ref a_P_weight) (.ref a_P_need))] r0 [(oX5 a_P (.int P_gloves) (.int P_matters) (.int P_pride) (.int P_coins) (.ref a_P_house) (.ref a_P_free) (.ref a_P_stuffed) (.ref a_P_after) (.ref a_P_weight) (.ref a_P_need))] := by
  refine ctI_of (cc := cX5_hasGlove) (ret := (some .boolean)) (maxL := 2) (by decide) rfl (Nat.le_of_ble_eq_true rfl) ?_
  intro p e s m below meth c A ls C K hw hl
  exact q_X5_hasGlove_0 C K a_P a_P_house a_P_free a_P_stuffed a_P_after a_P_weight a_P_need P_gloves P_matters P_pride P_coins r0 p1 hF hw (lv_sub hl [0, 1] rfl)
abbrev rm_X5_hasMatter : Room := { frames := 0, cells := 0, slots := 0, locals := 0 }
theorem in_X5_hasMatter_X5 : ∀ w ∈ u_ws RX5 TX5 10, w ∈ wsX5_hasMatter := fun w h => List.mem_cons_of_mem _ (bi_wsX50 w h)
theorem lk_X5_hasMatter_0 : Cond.fieldLink RX5 34 "GloveHouses$Peace" "matters" "I" ∈ wsX5_hasMatter := List.mem_cons_of_mem _ (bi_wsL_law0_r20 _ (List.mem_of_getElem? (i := 17) rfl))
set_option maxHeartbeats 4000000 in
set_option maxRecDepth 100000 in
theorem q_X5_hasMatter_0 {p : Program} {l : Launch} {e : Env} {s : State} {m : MethodId} {args : Array Value} {below : List Frame} {meth : Method} {c : Code} {sx : List sx_T} {D : va_G} {cI cZ cO : ClassId} {A : Nat → Prop} (C : Cx p s m args meth c RX5 wsX5_hasMatter cX5_hasMatter 2 (some .boolean)) (K : Kx sx D (tyL cI cZ cO) A s) (a_P : Nat) (a_P_house : Nat) (a_P_free : Nat) (a_P_stuffed : Nat) (a_P_after : Nat) (a_P_weight : Nat) (a_P_need : Nat) (P_gloves : Int32) (P_matters : Int32) (P_pride : Int32) (P_coins : Int32) (r0 : Int32)    (v1 : Int32) {H : Heap} {locs : List Loc} {ls : Array Slot} (hf : b_X5_hasMatter_0 P_matters  v1 = some r0) (hw : Wo D A s [(oX5 a_P (.int P_gloves) (.int P_matters) (.int P_pride) (.int P_coins) (.ref a_P_house) (.ref a_P_free) (.ref a_P_stuffed) (.ref a_P_after) (.ref a_P_weight) (.ref a_P_need))] H locs) (hl : lv_has ls 2 [(0, .ref a_P), (1, .int v1)]) : W p l e rm_X5_hasMatter s m args below meth c H locs 0 0 (MQ below (QcI D A r0 [(oX5 a_P (.int P_gloves) (.int P_matters) (.int P_pride) (.int P_coins) (.ref a_P_house) (.ref a_P_free) (.ref a_P_stuffed) (.ref a_P_after) (.ref a_P_weight) (.ref a_P_need))]) args s 0 0 A) (F0 m 0 ls []) := by
  obtain ⟨hx, hb, hml, hown, hts, hr, hlk⟩ := id C
  obtain ⟨hK, hX, hA⟩ := id K
  unfold b_X5_hasMatter_0 at hf
  refine lv_iload_n hx hb dX5_hasMatter_0 rfl (lv_at hl 1 rfl) ?_
  refine lv_if_lt (tgt := 16) hx hb dX5_hasMatter_1 (by decide) (fun hc => ?_) (fun hc => ?_)
  · have hf := (if_pos hc).symm.trans hf
    refine lv_iconst (v := (0 : Int32)) hx hb dX5_hasMatter_16 (by decide) ?_
    cases hf
    exact retZ C hw dX5_hasMatter_17 (by decide) rfl
  · have hf := (if_neg hc).symm.trans hf
    refine lv_iload_n hx hb dX5_hasMatter_4 rfl (lv_at hl 1 rfl) ?_
    refine lv_aload_n hx hb dX5_hasMatter_5 rfl (lv_at hl 0 rfl) ?_
    refine va_get (ci := 5) (v := .int P_matters) (C := RX5) (T := TX5) (N := 10) hx hb hts in_X5_hasMatter_X5 hown hK hw.1 0 rfl rfl 1 (by decide) (hts _ lk_X5_hasMatter_0) (fun _ h9 => h9) rfl dX5_hasMatter_6 ?_
    refine lv_icmp_ge (tgt := 16) hx hb dX5_hasMatter_9 (by decide) (fun hc => ?_) (fun hc => ?_)
    · have hf := (if_pos hc).symm.trans hf
      refine lv_iconst (v := (0 : Int32)) hx hb dX5_hasMatter_16 (by decide) ?_
      cases hf
      exact retZ C hw dX5_hasMatter_17 (by decide) rfl
    · have hf := (if_neg hc).symm.trans hf
      refine lv_iconst (v := (1 : Int32)) hx hb dX5_hasMatter_12 (by decide) ?_
      refine lv_goto (tgt := 17) hx hb dX5_hasMatter_13 (by decide) ?_
      cases hf
      exact retZ C hw dX5_hasMatter_17 (by decide) rfl
set_option maxHeartbeats 4000000 in
set_option maxRecDepth 100000 in
theorem k_X5_hasMatter {l : Launch} {sx : List sx_T} {D : va_G} {cI cZ cO : ClassId} (a_P : Nat) (a_P_house : Nat) (a_P_free : Nat) (a_P_stuffed : Nat) (a_P_after : Nat) (a_P_weight : Nat) (a_P_need : Nat) (P_gloves : Int32) (P_matters : Int32) (P_pride : Int32) (P_coins : Int32) (r0 : Int32) (p1 : Int32) (hF : f_X5_hasMatter P_matters p1 = some r0) : CtI l yX5_hasMatter wsX5_hasMatter rm_X5_hasMatter sx D (tyL cI cZ cO) [.ref a_P, .int p1] [(oX5 a_P (.int P_gloves) (.int P_matters) (.int P_pride) (.int P_coins) (.ref a_P_house) (.ref a_P_free) (.ref a_P_stuffed) (.ref a_P_after) (.ref a_P_weight) (.ref a_P_need))] r0 [(oX5 a_P (.int P_gloves) (.int P_matters) (.int P_pride) (.int P_coins) (.ref a_P_house) (.ref a_P_free) (.ref a_P_stuffed) (.ref a_P_after) (.ref a_P_weight) (.ref a_P_need))] := by
  refine ctI_of (cc := cX5_hasMatter) (ret := (some .boolean)) (maxL := 2) (by decide) rfl (Nat.le_of_ble_eq_true rfl) ?_
  intro p e s m below meth c A ls C K hw hl
  exact q_X5_hasMatter_0 C K a_P a_P_house a_P_free a_P_stuffed a_P_after a_P_weight a_P_need P_gloves P_matters P_pride P_coins r0 p1 hF hw (lv_sub hl [0, 1] rfl)
abbrev rm_X5_unlike : Room := { frames := 1, cells := 0, slots := 0, locals := 21 }
theorem in_X5_unlike_X5 : ∀ w ∈ u_ws RX5 TX5 10, w ∈ wsX5_unlike := fun w h => List.mem_cons_of_mem _ (bi_wsX50 w h)
theorem lk_X5_unlike_0 : Cond.fieldLink RX5 9 "GloveHouses$Peace" "house" "[I" ∈ wsX5_unlike := List.mem_cons_of_mem _ (bi_wsL_law0_r4 _ (List.mem_of_getElem? (i := 9) rfl))
set_option maxHeartbeats 4000000 in
set_option maxRecDepth 100000 in
theorem q_X5_unlike_0 {p : Program} {l : Launch} {e : Env} {s : State} {m : MethodId} {args : Array Value} {below : List Frame} {meth : Method} {c : Code} {sx : List sx_T} {D : va_G} {cI cZ cO : ClassId} {A : Nat → Prop} (C : Cx p s m args meth c RX5 wsX5_unlike cX5_unlike 3 (some .boolean)) (K : Kx sx D (tyL cI cZ cO) A s) (a_P : Nat) (a_P_house : Nat) (a_P_free : Nat) (a_P_stuffed : Nat) (a_P_after : Nat) (a_P_weight : Nat) (a_P_need : Nat) (P_gloves : Int32) (P_matters : Int32) (P_pride : Int32) (P_coins : Int32) (P_house : Nat → Int32) (r0 : Int32)    (v1 : Int32) (v2 : Int32) {H : Heap} {locs : List Loc} {ls : Array Slot} (hf : b_X5_unlike_0 P_gloves P_house  v1 v2 = some r0) (hw : Wo D A s [(oX5 a_P (.int P_gloves) (.int P_matters) (.int P_pride) (.int P_coins) (.ref a_P_house) (.ref a_P_free) (.ref a_P_stuffed) (.ref a_P_after) (.ref a_P_weight) (.ref a_P_need)), (a_P_house, .inl (cI, 6, .inl P_house))] H locs) (hl : lv_has ls 3 [(0, .ref a_P), (1, .int v1), (2, .int v2)]) : W p l e rm_X5_unlike s m args below meth c H locs 0 0 (MQ below (QcI D A r0 [(oX5 a_P (.int P_gloves) (.int P_matters) (.int P_pride) (.int P_coins) (.ref a_P_house) (.ref a_P_free) (.ref a_P_stuffed) (.ref a_P_after) (.ref a_P_weight) (.ref a_P_need)), (a_P_house, .inl (cI, 6, .inl P_house))]) args s 0 0 A) (F0 m 0 ls []) := by
  obtain ⟨hx, hb, hml, hown, hts, hr, hlk⟩ := id C
  obtain ⟨hK, hX, hA⟩ := id K
  unfold b_X5_unlike_0 at hf
  refine lv_aload_n hx hb dX5_unlike_0 rfl (lv_at hl 0 rfl) ?_
  refine lv_iload_n hx hb dX5_unlike_1 rfl (lv_at hl 1 rfl) ?_
  obtain ⟨r_1, hg_2, hf⟩ := ob1_some hf
  refine cl_ViA (As := [.int v1]) (rest := []) C K hw (k_X5_hasGlove a_P a_P_house a_P_free a_P_stuffed a_P_after a_P_weight a_P_need P_gloves P_matters P_pride P_coins r_1 v1 hg_2) [0] rfl (by decide) rfl rfl (ci := 5) (j := 0) rfl rfl (cwV 1 hts gX5_unlike_X5_hasGlove rfl rfl rfl (by decide +kernel) ⟨Nat.le_of_ble_eq_true rfl, Nat.le_of_ble_eq_true rfl⟩) rfl hl rfl (Nat.le_of_ble_eq_true rfl) dX5_unlike_2 ⟨Nat.zero_le _, Nat.zero_le _⟩ (fun H locs hw => ?_)
  have hw : Wo D A s [(oX5 a_P (.int P_gloves) (.int P_matters) (.int P_pride) (.int P_coins) (.ref a_P_house) (.ref a_P_free) (.ref a_P_stuffed) (.ref a_P_after) (.ref a_P_weight) (.ref a_P_need)), (a_P_house, .inl (cI, 6, .inl P_house))] H locs := hw
  refine lv_if_eq (tgt := 35) hx hb dX5_unlike_5 (by decide) (fun hc => ?_) (fun hc => ?_)
  · have hf := (if_pos hc).symm.trans hf
    refine lv_iconst (v := (0 : Int32)) hx hb dX5_unlike_35 (by decide) ?_
    cases hf
    exact retZ C hw dX5_unlike_36 (by decide) rfl
  · have hf := (if_neg hc).symm.trans hf
    refine lv_aload_n hx hb dX5_unlike_8 rfl (lv_at hl 0 rfl) ?_
    refine lv_iload_n hx hb dX5_unlike_9 rfl (lv_at hl 2 rfl) ?_
    obtain ⟨r_3, hg_4, hf⟩ := ob1_some hf
    refine cl_ViA (As := [.int v2]) (rest := []) C K hw (k_X5_hasGlove a_P a_P_house a_P_free a_P_stuffed a_P_after a_P_weight a_P_need P_gloves P_matters P_pride P_coins r_3 v2 hg_4) [0] rfl (by decide) rfl rfl (ci := 5) (j := 0) rfl rfl (cwV 1 hts gX5_unlike_X5_hasGlove rfl rfl rfl (by decide +kernel) ⟨Nat.le_of_ble_eq_true rfl, Nat.le_of_ble_eq_true rfl⟩) rfl hl rfl (Nat.le_of_ble_eq_true rfl) dX5_unlike_10 ⟨Nat.zero_le _, Nat.zero_le _⟩ (fun H locs hw => ?_)
    have hw : Wo D A s [(oX5 a_P (.int P_gloves) (.int P_matters) (.int P_pride) (.int P_coins) (.ref a_P_house) (.ref a_P_free) (.ref a_P_stuffed) (.ref a_P_after) (.ref a_P_weight) (.ref a_P_need)), (a_P_house, .inl (cI, 6, .inl P_house))] H locs := hw
    refine lv_if_eq (tgt := 35) hx hb dX5_unlike_13 (by decide) (fun hc => ?_) (fun hc => ?_)
    · have hf := (if_pos hc).symm.trans hf
      refine lv_iconst (v := (0 : Int32)) hx hb dX5_unlike_35 (by decide) ?_
      cases hf
      exact retZ C hw dX5_unlike_36 (by decide) rfl
    · have hf := (if_neg hc).symm.trans hf
      refine lv_aload_n hx hb dX5_unlike_16 rfl (lv_at hl 0 rfl) ?_
      refine va_get (ci := 5) (v := .ref a_P_house) (C := RX5) (T := TX5) (N := 10) hx hb hts in_X5_unlike_X5 hown hK hw.1 0 rfl rfl 4 (by decide) (hts _ lk_X5_unlike_0) (fun _ h9 => h9) rfl dX5_unlike_17 ?_
      refine lv_iload_n hx hb dX5_unlike_20 rfl (lv_at hl 1 rfl) ?_
      obtain ⟨hc_5, hf⟩ := gd_some hf
      refine va_iald hx hb hK hw.1 1 0 rfl rfl (inB_in hc_5) dX5_unlike_21 ?_
      refine lv_aload_n hx hb dX5_unlike_22 rfl (lv_at hl 0 rfl) ?_
      refine va_get (ci := 5) (v := .ref a_P_house) (C := RX5) (T := TX5) (N := 10) hx hb hts in_X5_unlike_X5 hown hK hw.1 0 rfl rfl 4 (by decide) (hts _ lk_X5_unlike_0) (fun _ h9 => h9) rfl dX5_unlike_23 ?_
      refine lv_iload_n hx hb dX5_unlike_26 rfl (lv_at hl 2 rfl) ?_
      obtain ⟨hc_6, hf⟩ := gd_some hf
      refine va_iald hx hb hK hw.1 1 0 rfl rfl (inB_in hc_6) dX5_unlike_27 ?_
      refine lv_icmp_eq (tgt := 35) hx hb dX5_unlike_28 (by decide) (fun hc => ?_) (fun hc => ?_)
      · have hf := (if_pos hc).symm.trans hf
        refine lv_iconst (v := (0 : Int32)) hx hb dX5_unlike_35 (by decide) ?_
        cases hf
        exact retZ C hw dX5_unlike_36 (by decide) rfl
      · have hf := (if_neg hc).symm.trans hf
        refine lv_iconst (v := (1 : Int32)) hx hb dX5_unlike_31 (by decide) ?_
        refine lv_goto (tgt := 36) hx hb dX5_unlike_32 (by decide) ?_
        cases hf
        exact retZ C hw dX5_unlike_36 (by decide) rfl
set_option maxHeartbeats 4000000 in
set_option maxRecDepth 100000 in
theorem k_X5_unlike {l : Launch} {sx : List sx_T} {D : va_G} {cI cZ cO : ClassId} (a_P : Nat) (a_P_house : Nat) (a_P_free : Nat) (a_P_stuffed : Nat) (a_P_after : Nat) (a_P_weight : Nat) (a_P_need : Nat) (P_gloves : Int32) (P_matters : Int32) (P_pride : Int32) (P_coins : Int32) (P_house : Nat → Int32) (r0 : Int32) (p1 : Int32) (p2 : Int32) (hF : f_X5_unlike P_gloves P_house p1 p2 = some r0) : CtI l yX5_unlike wsX5_unlike rm_X5_unlike sx D (tyL cI cZ cO) [.ref a_P, .int p1, .int p2] [(oX5 a_P (.int P_gloves) (.int P_matters) (.int P_pride) (.int P_coins) (.ref a_P_house) (.ref a_P_free) (.ref a_P_stuffed) (.ref a_P_after) (.ref a_P_weight) (.ref a_P_need)), (a_P_house, .inl (cI, 6, .inl P_house))] r0 [(oX5 a_P (.int P_gloves) (.int P_matters) (.int P_pride) (.int P_coins) (.ref a_P_house) (.ref a_P_free) (.ref a_P_stuffed) (.ref a_P_after) (.ref a_P_weight) (.ref a_P_need)), (a_P_house, .inl (cI, 6, .inl P_house))] := by
  refine ctI_of (cc := cX5_unlike) (ret := (some .boolean)) (maxL := 3) (by decide) rfl (Nat.le_of_ble_eq_true rfl) ?_
  intro p e s m below meth c A ls C K hw hl
  exact q_X5_unlike_0 C K a_P a_P_house a_P_free a_P_stuffed a_P_after a_P_weight a_P_need P_gloves P_matters P_pride P_coins P_house r0 p1 p2 hF hw (lv_sub hl [0, 1, 2] rfl)
abbrev rm_X5_sameAim : Room := { frames := 0, cells := 0, slots := 0, locals := 0 }
theorem in_X5_sameAim_X5 : ∀ w ∈ u_ws RX5 TX5 10, w ∈ wsX5_sameAim := fun w h => List.mem_cons_of_mem _ (bi_wsX50 w h)
theorem lk_X5_sameAim_0 : Cond.fieldLink RX5 21 "GloveHouses$Peace" "after" "[I" ∈ wsX5_sameAim := List.mem_cons_of_mem _ (bi_wsL_law0_r4 _ (List.mem_of_getElem? (i := 12) rfl))
set_option maxHeartbeats 4000000 in
set_option maxRecDepth 100000 in
theorem q_X5_sameAim_0 {p : Program} {l : Launch} {e : Env} {s : State} {m : MethodId} {args : Array Value} {below : List Frame} {meth : Method} {c : Code} {sx : List sx_T} {D : va_G} {cI cZ cO : ClassId} {A : Nat → Prop} (C : Cx p s m args meth c RX5 wsX5_sameAim cX5_sameAim 3 (some .int)) (K : Kx sx D (tyL cI cZ cO) A s) (a_P : Nat) (a_P_house : Nat) (a_P_free : Nat) (a_P_stuffed : Nat) (a_P_after : Nat) (a_P_weight : Nat) (a_P_need : Nat) (P_gloves : Int32) (P_matters : Int32) (P_pride : Int32) (P_coins : Int32) (P_after : Nat → Int32) (r0 : Int32)    (v1 : Int32) (v2 : Int32) {H : Heap} {locs : List Loc} {ls : Array Slot} (hf : b_X5_sameAim_0 P_after  v1 v2 = some r0) (hw : Wo D A s [(oX5 a_P (.int P_gloves) (.int P_matters) (.int P_pride) (.int P_coins) (.ref a_P_house) (.ref a_P_free) (.ref a_P_stuffed) (.ref a_P_after) (.ref a_P_weight) (.ref a_P_need)), (a_P_after, .inl (cI, 6, .inl P_after))] H locs) (hl : lv_has ls 3 [(0, .ref a_P), (1, .int v1), (2, .int v2)]) : W p l e rm_X5_sameAim s m args below meth c H locs 0 0 (MQ below (QcI D A r0 [(oX5 a_P (.int P_gloves) (.int P_matters) (.int P_pride) (.int P_coins) (.ref a_P_house) (.ref a_P_free) (.ref a_P_stuffed) (.ref a_P_after) (.ref a_P_weight) (.ref a_P_need)), (a_P_after, .inl (cI, 6, .inl P_after))]) args s 0 0 A) (F0 m 0 ls []) := by
  obtain ⟨hx, hb, hml, hown, hts, hr, hlk⟩ := id C
  obtain ⟨hK, hX, hA⟩ := id K
  unfold b_X5_sameAim_0 at hf
  refine lv_aload_n hx hb dX5_sameAim_0 rfl (lv_at hl 0 rfl) ?_
  refine va_get (ci := 5) (v := .ref a_P_after) (C := RX5) (T := TX5) (N := 10) hx hb hts in_X5_sameAim_X5 hown hK hw.1 0 rfl rfl 7 (by decide) (hts _ lk_X5_sameAim_0) (fun _ h9 => h9) rfl dX5_sameAim_1 ?_
  refine lv_iload_n hx hb dX5_sameAim_4 rfl (lv_at hl 1 rfl) ?_
  obtain ⟨hc_1, hf⟩ := gd_some hf
  refine va_iald hx hb hK hw.1 1 0 rfl rfl (inB_in hc_1) dX5_sameAim_5 ?_
  refine lv_aload_n hx hb dX5_sameAim_6 rfl (lv_at hl 0 rfl) ?_
  refine va_get (ci := 5) (v := .ref a_P_after) (C := RX5) (T := TX5) (N := 10) hx hb hts in_X5_sameAim_X5 hown hK hw.1 0 rfl rfl 7 (by decide) (hts _ lk_X5_sameAim_0) (fun _ h9 => h9) rfl dX5_sameAim_7 ?_
  refine lv_iload_n hx hb dX5_sameAim_10 rfl (lv_at hl 2 rfl) ?_
  obtain ⟨hc_2, hf⟩ := gd_some hf
  refine va_iald hx hb hK hw.1 1 0 rfl rfl (inB_in hc_2) dX5_sameAim_11 ?_
  refine lv_icmp_ne (tgt := 19) hx hb dX5_sameAim_12 (by decide) (fun hc => ?_) (fun hc => ?_)
  · have hf := (if_neg hc).symm.trans hf
    refine lv_iconst (v := (0 : Int32)) hx hb dX5_sameAim_19 (by decide) ?_
    cases hf
    exact retI C hw dX5_sameAim_20 rfl
  · have hf := (if_pos hc).symm.trans hf
    refine lv_iconst (v := (1 : Int32)) hx hb dX5_sameAim_15 (by decide) ?_
    refine lv_goto (tgt := 20) hx hb dX5_sameAim_16 (by decide) ?_
    cases hf
    exact retI C hw dX5_sameAim_20 rfl
set_option maxHeartbeats 4000000 in
set_option maxRecDepth 100000 in
theorem k_X5_sameAim {l : Launch} {sx : List sx_T} {D : va_G} {cI cZ cO : ClassId} (a_P : Nat) (a_P_house : Nat) (a_P_free : Nat) (a_P_stuffed : Nat) (a_P_after : Nat) (a_P_weight : Nat) (a_P_need : Nat) (P_gloves : Int32) (P_matters : Int32) (P_pride : Int32) (P_coins : Int32) (P_after : Nat → Int32) (r0 : Int32) (p1 : Int32) (p2 : Int32) (hF : f_X5_sameAim P_after p1 p2 = some r0) : CtI l yX5_sameAim wsX5_sameAim rm_X5_sameAim sx D (tyL cI cZ cO) [.ref a_P, .int p1, .int p2] [(oX5 a_P (.int P_gloves) (.int P_matters) (.int P_pride) (.int P_coins) (.ref a_P_house) (.ref a_P_free) (.ref a_P_stuffed) (.ref a_P_after) (.ref a_P_weight) (.ref a_P_need)), (a_P_after, .inl (cI, 6, .inl P_after))] r0 [(oX5 a_P (.int P_gloves) (.int P_matters) (.int P_pride) (.int P_coins) (.ref a_P_house) (.ref a_P_free) (.ref a_P_stuffed) (.ref a_P_after) (.ref a_P_weight) (.ref a_P_need)), (a_P_after, .inl (cI, 6, .inl P_after))] := by
  refine ctI_of (cc := cX5_sameAim) (ret := (some .int)) (maxL := 3) (by decide) rfl (Nat.le_of_ble_eq_true rfl) ?_
  intro p e s m below meth c A ls C K hw hl
  exact q_X5_sameAim_0 C K a_P a_P_house a_P_free a_P_stuffed a_P_after a_P_weight a_P_need P_gloves P_matters P_pride P_coins P_after r0 p1 p2 hF hw (lv_sub hl [0, 1, 2] rfl)
abbrev rm_X5_nth : Room := { frames := 0, cells := 0, slots := 0, locals := 0 }
theorem in_X5_nth_X5 : ∀ w ∈ u_ws RX5 TX5 10, w ∈ wsX5_nth := fun w h => List.mem_cons_of_mem _ (bi_wsX50 w h)
theorem lk_X5_nth_0 : Cond.fieldLink RX5 30 "GloveHouses$Peace" "gloves" "I" ∈ wsX5_nth := List.mem_cons_of_mem _ (bi_wsL_law0_r12 _ (List.mem_of_getElem? (i := 8) rfl))
theorem lk_X5_nth_1 : Cond.fieldLink RX5 9 "GloveHouses$Peace" "house" "[I" ∈ wsX5_nth := List.mem_cons_of_mem _ (bi_wsL_law0_r4 _ (List.mem_of_getElem? (i := 9) rfl))
set_option maxHeartbeats 4000000 in
set_option maxRecDepth 100000 in
theorem q_X5_nth_36 {p : Program} {l : Launch} {e : Env} {s : State} {m : MethodId} {args : Array Value} {below : List Frame} {meth : Method} {c : Code} {sx : List sx_T} {D : va_G} {cI cZ cO : ClassId} {A : Nat → Prop} (C : Cx p s m args meth c RX5 wsX5_nth cX5_nth 5 (some .int)) (K : Kx sx D (tyL cI cZ cO) A s) (a_P : Nat) (a_P_house : Nat) (a_P_free : Nat) (a_P_stuffed : Nat) (a_P_after : Nat) (a_P_weight : Nat) (a_P_need : Nat) (P_gloves : Int32) (P_matters : Int32) (P_pride : Int32) (P_coins : Int32) (P_house : Nat → Int32) (r0 : Int32)   (k5 : Int32 → Int32 → Int32 → Int32 → Option (Int32)) (hk5 : ∀ (v1 : Int32) (v2 : Int32) (v3 : Int32) (v4 : Int32) (H : Heap) (locs : List Loc) (ls : Array Slot), k5 v1 v2 v3 v4 = some r0 → Wo D A s [(oX5 a_P (.int P_gloves) (.int P_matters) (.int P_pride) (.int P_coins) (.ref a_P_house) (.ref a_P_free) (.ref a_P_stuffed) (.ref a_P_after) (.ref a_P_weight) (.ref a_P_need)), (a_P_house, .inl (cI, 6, .inl P_house))] H locs → lv_has ls 5 [(0, .ref a_P), (1, .int v1), (2, .int v2), (3, .int v3), (4, .int v4)] → W p l e rm_X5_nth s m args below meth c H locs 0 0 (MQ below (QcI D A r0 [(oX5 a_P (.int P_gloves) (.int P_matters) (.int P_pride) (.int P_coins) (.ref a_P_house) (.ref a_P_free) (.ref a_P_stuffed) (.ref a_P_after) (.ref a_P_weight) (.ref a_P_need)), (a_P_house, .inl (cI, 6, .inl P_house))]) args s 0 0 A) (F0 m 5 ls [])) (v1 : Int32) (v2 : Int32) (v3 : Int32) (v4 : Int32) {H : Heap} {locs : List Loc} {ls : Array Slot} (hf : b_X5_nth_36 P_gloves P_house k5 v1 v2 v3 v4 = some r0) (hw : Wo D A s [(oX5 a_P (.int P_gloves) (.int P_matters) (.int P_pride) (.int P_coins) (.ref a_P_house) (.ref a_P_free) (.ref a_P_stuffed) (.ref a_P_after) (.ref a_P_weight) (.ref a_P_need)), (a_P_house, .inl (cI, 6, .inl P_house))] H locs) (hl : lv_has ls 5 [(0, .ref a_P), (1, .int v1), (2, .int v2), (3, .int v3), (4, .int v4)]) : W p l e rm_X5_nth s m args below meth c H locs 0 0 (MQ below (QcI D A r0 [(oX5 a_P (.int P_gloves) (.int P_matters) (.int P_pride) (.int P_coins) (.ref a_P_house) (.ref a_P_free) (.ref a_P_stuffed) (.ref a_P_after) (.ref a_P_weight) (.ref a_P_need)), (a_P_house, .inl (cI, 6, .inl P_house))]) args s 0 0 A) (F0 m 36 ls []) := by
  obtain ⟨hx, hb, hml, hown, hts, hr, hlk⟩ := id C
  obtain ⟨hK, hX, hA⟩ := id K
  unfold b_X5_nth_36 at hf
  obtain ⟨v4_1, e_v4_1, hf⟩ := bnd_some hf
  refine lv_iinc (v := v4_1) (lv' := [(4, .int v4_1), (0, .ref a_P), (1, .int v1), (2, .int v2), (3, .int v3)]) hx hb dX5_nth_36 hl (k := 4) rfl (by rw [e_v4_1]; rfl) (by decide) rfl (fun ls hl => ?_)
  refine lv_goto (tgt := 5) hx hb dX5_nth_39 (by decide) ?_
  exact hk5 v1 v2 v3 v4_1 _ _ _ hf hw (lv_sub hl [1, 2, 3, 4, 0] rfl)
set_option maxHeartbeats 4000000 in
set_option maxRecDepth 100000 in
theorem q_X5_nth_5 {p : Program} {l : Launch} {e : Env} {s : State} {m : MethodId} {args : Array Value} {below : List Frame} {meth : Method} {c : Code} {sx : List sx_T} {D : va_G} {cI cZ cO : ClassId} {A : Nat → Prop} (C : Cx p s m args meth c RX5 wsX5_nth cX5_nth 5 (some .int)) (K : Kx sx D (tyL cI cZ cO) A s) (a_P : Nat) (a_P_house : Nat) (a_P_free : Nat) (a_P_stuffed : Nat) (a_P_after : Nat) (a_P_weight : Nat) (a_P_need : Nat) (P_gloves : Int32) (P_matters : Int32) (P_pride : Int32) (P_coins : Int32) (P_house : Nat → Int32) (r0 : Int32)   (k5 : Int32 → Int32 → Int32 → Int32 → Option (Int32)) (hk5 : ∀ (v1 : Int32) (v2 : Int32) (v3 : Int32) (v4 : Int32) (H : Heap) (locs : List Loc) (ls : Array Slot), k5 v1 v2 v3 v4 = some r0 → Wo D A s [(oX5 a_P (.int P_gloves) (.int P_matters) (.int P_pride) (.int P_coins) (.ref a_P_house) (.ref a_P_free) (.ref a_P_stuffed) (.ref a_P_after) (.ref a_P_weight) (.ref a_P_need)), (a_P_house, .inl (cI, 6, .inl P_house))] H locs → lv_has ls 5 [(0, .ref a_P), (1, .int v1), (2, .int v2), (3, .int v3), (4, .int v4)] → W p l e rm_X5_nth s m args below meth c H locs 0 0 (MQ below (QcI D A r0 [(oX5 a_P (.int P_gloves) (.int P_matters) (.int P_pride) (.int P_coins) (.ref a_P_house) (.ref a_P_free) (.ref a_P_stuffed) (.ref a_P_after) (.ref a_P_weight) (.ref a_P_need)), (a_P_house, .inl (cI, 6, .inl P_house))]) args s 0 0 A) (F0 m 5 ls [])) (v1 : Int32) (v2 : Int32) (v3 : Int32) (v4 : Int32) {H : Heap} {locs : List Loc} {ls : Array Slot} (hf : b_X5_nth_5 P_gloves P_house k5 v1 v2 v3 v4 = some r0) (hw : Wo D A s [(oX5 a_P (.int P_gloves) (.int P_matters) (.int P_pride) (.int P_coins) (.ref a_P_house) (.ref a_P_free) (.ref a_P_stuffed) (.ref a_P_after) (.ref a_P_weight) (.ref a_P_need)), (a_P_house, .inl (cI, 6, .inl P_house))] H locs) (hl : lv_has ls 5 [(0, .ref a_P), (1, .int v1), (2, .int v2), (3, .int v3), (4, .int v4)]) : W p l e rm_X5_nth s m args below meth c H locs 0 0 (MQ below (QcI D A r0 [(oX5 a_P (.int P_gloves) (.int P_matters) (.int P_pride) (.int P_coins) (.ref a_P_house) (.ref a_P_free) (.ref a_P_stuffed) (.ref a_P_after) (.ref a_P_weight) (.ref a_P_need)), (a_P_house, .inl (cI, 6, .inl P_house))]) args s 0 0 A) (F0 m 5 ls []) := by
  obtain ⟨hx, hb, hml, hown, hts, hr, hlk⟩ := id C
  obtain ⟨hK, hX, hA⟩ := id K
  unfold b_X5_nth_5 at hf
  refine lv_iload hx hb dX5_nth_5 (lv_at hl 4 rfl) ?_
  refine lv_aload_n hx hb dX5_nth_7 rfl (lv_at hl 0 rfl) ?_
  refine va_get (ci := 5) (v := .int P_gloves) (C := RX5) (T := TX5) (N := 10) hx hb hts in_X5_nth_X5 hown hK hw.1 0 rfl rfl 0 (by decide) (hts _ lk_X5_nth_0) (fun _ h9 => h9) rfl dX5_nth_8 ?_
  refine lv_icmp_ge (tgt := 42) hx hb dX5_nth_11 (by decide) (fun hc => ?_) (fun hc => ?_)
  · have hf := (if_pos hc).symm.trans hf
    refine lv_iconst (v := (-1 : Int32)) hx hb dX5_nth_42 (by decide) ?_
    clear hk5; cases hf
    exact retI C hw dX5_nth_43 rfl
  · have hf := (if_neg hc).symm.trans hf
    refine lv_aload_n hx hb dX5_nth_14 rfl (lv_at hl 0 rfl) ?_
    refine va_get (ci := 5) (v := .ref a_P_house) (C := RX5) (T := TX5) (N := 10) hx hb hts in_X5_nth_X5 hown hK hw.1 0 rfl rfl 4 (by decide) (hts _ lk_X5_nth_1) (fun _ h9 => h9) rfl dX5_nth_15 ?_
    refine lv_iload hx hb dX5_nth_18 (lv_at hl 4 rfl) ?_
    obtain ⟨hc_1, hf⟩ := gd_some hf
    refine va_iald hx hb hK hw.1 1 0 rfl rfl (inB_in hc_1) dX5_nth_20 ?_
    refine lv_iload_n hx hb dX5_nth_21 rfl (lv_at hl 1 rfl) ?_
    refine lv_icmp_ne (tgt := 36) hx hb dX5_nth_22 (by decide) (fun hc => ?_) (fun hc => ?_)
    · have hf := (if_neg hc).symm.trans hf
      exact q_X5_nth_36 C K a_P a_P_house a_P_free a_P_stuffed a_P_after a_P_weight a_P_need P_gloves P_matters P_pride P_coins P_house r0 k5 hk5 v1 v2 v3 v4 hf hw (lv_sub hl [0, 1, 2, 3, 4] rfl)
    · have hf := (if_pos hc).symm.trans hf
      refine lv_iload_n hx hb dX5_nth_25 rfl (lv_at hl 3 rfl) ?_
      refine lv_iload_n hx hb dX5_nth_26 rfl (lv_at hl 2 rfl) ?_
      refine lv_icmp_ne (tgt := 33) hx hb dX5_nth_27 (by decide) (fun hc => ?_) (fun hc => ?_)
      · have hf := (if_neg hc).symm.trans hf
        obtain ⟨v3_2, e_v3_2, hf⟩ := bnd_some hf
        refine lv_iinc (v := v3_2) (lv' := [(3, .int v3_2), (0, .ref a_P), (1, .int v1), (2, .int v2), (4, .int v4)]) hx hb dX5_nth_33 hl (k := 3) rfl (by rw [e_v3_2]; rfl) (by decide) rfl (fun ls hl => ?_)
        exact q_X5_nth_36 C K a_P a_P_house a_P_free a_P_stuffed a_P_after a_P_weight a_P_need P_gloves P_matters P_pride P_coins P_house r0 k5 hk5 v1 v2 v3_2 v4 hf hw (lv_sub hl [1, 2, 3, 0, 4] rfl)
      · have hf := (if_pos hc).symm.trans hf
        refine lv_iload hx hb dX5_nth_30 (lv_at hl 4 rfl) ?_
        clear hk5; cases hf
        exact retI C hw dX5_nth_32 rfl
theorem qf_X5_nth_5 {p : Program} {l : Launch} {e : Env} {s : State} {m : MethodId} {args : Array Value} {below : List Frame} {meth : Method} {c : Code} {sx : List sx_T} {D : va_G} {cI cZ cO : ClassId} {A : Nat → Prop} (C : Cx p s m args meth c RX5 wsX5_nth cX5_nth 5 (some .int)) (K : Kx sx D (tyL cI cZ cO) A s) (a_P : Nat) (a_P_house : Nat) (a_P_free : Nat) (a_P_stuffed : Nat) (a_P_after : Nat) (a_P_weight : Nat) (a_P_need : Nat) (P_gloves : Int32) (P_matters : Int32) (P_pride : Int32) (P_coins : Int32) (P_house : Nat → Int32) (r0 : Int32)    (n : Nat) : ∀ (v1 : Int32) (v2 : Int32) (v3 : Int32) (v4 : Int32) (H : Heap) (locs : List Loc) (ls : Array Slot), f_X5_nth_5 P_gloves P_house  n v1 v2 v3 v4 = some r0 → Wo D A s [(oX5 a_P (.int P_gloves) (.int P_matters) (.int P_pride) (.int P_coins) (.ref a_P_house) (.ref a_P_free) (.ref a_P_stuffed) (.ref a_P_after) (.ref a_P_weight) (.ref a_P_need)), (a_P_house, .inl (cI, 6, .inl P_house))] H locs → lv_has ls 5 [(0, .ref a_P), (1, .int v1), (2, .int v2), (3, .int v3), (4, .int v4)] → W p l e rm_X5_nth s m args below meth c H locs 0 0 (MQ below (QcI D A r0 [(oX5 a_P (.int P_gloves) (.int P_matters) (.int P_pride) (.int P_coins) (.ref a_P_house) (.ref a_P_free) (.ref a_P_stuffed) (.ref a_P_after) (.ref a_P_weight) (.ref a_P_need)), (a_P_house, .inl (cI, 6, .inl P_house))]) args s 0 0 A) (F0 m 5 ls []) := by
  induction n with
  | zero =>
    intro v1 v2 v3 v4 H locs ls hf
    have h9 : (none : Option (Int32)) = some r0 := hf
    cases h9
  | succ n ih =>
    intro v1 v2 v3 v4 H locs ls hf hw hl
    exact q_X5_nth_5 C K a_P a_P_house a_P_free a_P_stuffed a_P_after a_P_weight a_P_need P_gloves P_matters P_pride P_coins P_house r0  (f_X5_nth_5 P_gloves P_house  n) ih v1 v2 v3 v4 hf hw hl
set_option maxHeartbeats 4000000 in
set_option maxRecDepth 100000 in
theorem q_X5_nth_0 {p : Program} {l : Launch} {e : Env} {s : State} {m : MethodId} {args : Array Value} {below : List Frame} {meth : Method} {c : Code} {sx : List sx_T} {D : va_G} {cI cZ cO : ClassId} {A : Nat → Prop} (C : Cx p s m args meth c RX5 wsX5_nth cX5_nth 5 (some .int)) (K : Kx sx D (tyL cI cZ cO) A s) (a_P : Nat) (a_P_house : Nat) (a_P_free : Nat) (a_P_stuffed : Nat) (a_P_after : Nat) (a_P_weight : Nat) (a_P_need : Nat) (P_gloves : Int32) (P_matters : Int32) (P_pride : Int32) (P_coins : Int32) (P_house : Nat → Int32) (r0 : Int32)    (v1 : Int32) (v2 : Int32) {H : Heap} {locs : List Loc} {ls : Array Slot} (hf : b_X5_nth_0 P_gloves P_house  v1 v2 = some r0) (hw : Wo D A s [(oX5 a_P (.int P_gloves) (.int P_matters) (.int P_pride) (.int P_coins) (.ref a_P_house) (.ref a_P_free) (.ref a_P_stuffed) (.ref a_P_after) (.ref a_P_weight) (.ref a_P_need)), (a_P_house, .inl (cI, 6, .inl P_house))] H locs) (hl : lv_has ls 5 [(0, .ref a_P), (1, .int v1), (2, .int v2)]) : W p l e rm_X5_nth s m args below meth c H locs 0 0 (MQ below (QcI D A r0 [(oX5 a_P (.int P_gloves) (.int P_matters) (.int P_pride) (.int P_coins) (.ref a_P_house) (.ref a_P_free) (.ref a_P_stuffed) (.ref a_P_after) (.ref a_P_weight) (.ref a_P_need)), (a_P_house, .inl (cI, 6, .inl P_house))]) args s 0 0 A) (F0 m 0 ls []) := by
  obtain ⟨hx, hb, hml, hown, hts, hr, hlk⟩ := id C
  obtain ⟨hK, hX, hA⟩ := id K
  unfold b_X5_nth_0 at hf
  refine lv_iconst (v := (0 : Int32)) hx hb dX5_nth_0 (by decide) ?_
  refine lv_istore_n (lv' := [(3, .int (0 : Int32)), (0, .ref a_P), (1, .int v1), (2, .int v2)]) hx hb dX5_nth_1 rfl hl (by decide) rfl (fun ls hl => ?_)
  refine lv_iconst (v := (0 : Int32)) hx hb dX5_nth_2 (by decide) ?_
  refine lv_istore (lv' := [(4, .int (0 : Int32)), (3, .int (0 : Int32)), (0, .ref a_P), (1, .int v1), (2, .int v2)]) hx hb dX5_nth_3 hl (by decide) rfl (fun ls hl => ?_)
  exact qf_X5_nth_5 C K a_P a_P_house a_P_free a_P_stuffed a_P_after a_P_weight a_P_need P_gloves P_matters P_pride P_coins P_house r0  fu v1 v2 (0 : Int32) (0 : Int32) _ _ _ hf hw (lv_sub hl [2, 3, 4, 1, 0] rfl)
set_option maxHeartbeats 4000000 in
set_option maxRecDepth 100000 in
theorem k_X5_nth {l : Launch} {sx : List sx_T} {D : va_G} {cI cZ cO : ClassId} (a_P : Nat) (a_P_house : Nat) (a_P_free : Nat) (a_P_stuffed : Nat) (a_P_after : Nat) (a_P_weight : Nat) (a_P_need : Nat) (P_gloves : Int32) (P_matters : Int32) (P_pride : Int32) (P_coins : Int32) (P_house : Nat → Int32) (r0 : Int32) (p1 : Int32) (p2 : Int32) (hF : f_X5_nth P_gloves P_house p1 p2 = some r0) : CtI l yX5_nth wsX5_nth rm_X5_nth sx D (tyL cI cZ cO) [.ref a_P, .int p1, .int p2] [(oX5 a_P (.int P_gloves) (.int P_matters) (.int P_pride) (.int P_coins) (.ref a_P_house) (.ref a_P_free) (.ref a_P_stuffed) (.ref a_P_after) (.ref a_P_weight) (.ref a_P_need)), (a_P_house, .inl (cI, 6, .inl P_house))] r0 [(oX5 a_P (.int P_gloves) (.int P_matters) (.int P_pride) (.int P_coins) (.ref a_P_house) (.ref a_P_free) (.ref a_P_stuffed) (.ref a_P_after) (.ref a_P_weight) (.ref a_P_need)), (a_P_house, .inl (cI, 6, .inl P_house))] := by
  refine ctI_of (cc := cX5_nth) (ret := (some .int)) (maxL := 5) (by decide) rfl (Nat.le_of_ble_eq_true rfl) ?_
  intro p e s m below meth c A ls C K hw hl
  exact q_X5_nth_0 C K a_P a_P_house a_P_free a_P_stuffed a_P_after a_P_weight a_P_need P_gloves P_matters P_pride P_coins P_house r0 p1 p2 hF hw (lv_sub hl [0, 1, 2] rfl)
abbrev rm_X5_heaviest : Room := { frames := 0, cells := 0, slots := 0, locals := 0 }
theorem in_X5_heaviest_X5 : ∀ w ∈ u_ws RX5 TX5 10, w ∈ wsX5_heaviest := fun w h => List.mem_cons_of_mem _ (bi_wsX50 w h)
theorem lk_X5_heaviest_0 : Cond.fieldLink RX5 34 "GloveHouses$Peace" "matters" "I" ∈ wsX5_heaviest := List.mem_cons_of_mem _ (bi_wsL_law0_r20 _ (List.mem_of_getElem? (i := 17) rfl))
theorem lk_X5_heaviest_1 : Cond.fieldLink RX5 24 "GloveHouses$Peace" "weight" "[I" ∈ wsX5_heaviest := List.mem_cons_of_mem _ (bi_wsL_law0_r4 _ (List.mem_of_getElem? (i := 13) rfl))
set_option maxHeartbeats 4000000 in
set_option maxRecDepth 100000 in
theorem q_X5_heaviest_33 {p : Program} {l : Launch} {e : Env} {s : State} {m : MethodId} {args : Array Value} {below : List Frame} {meth : Method} {c : Code} {sx : List sx_T} {D : va_G} {cI cZ cO : ClassId} {A : Nat → Prop} (C : Cx p s m args meth c RX5 wsX5_heaviest cX5_heaviest 4 (some .int)) (K : Kx sx D (tyL cI cZ cO) A s) (a_P : Nat) (a_P_house : Nat) (a_P_free : Nat) (a_P_stuffed : Nat) (a_P_after : Nat) (a_P_weight : Nat) (a_P_need : Nat) (P_gloves : Int32) (P_matters : Int32) (P_pride : Int32) (P_coins : Int32) (P_weight : Nat → Int32) (r0 : Int32)   (k6 : Int32 → Int32 → Int32 → Option (Int32)) (hk6 : ∀ (v1 : Int32) (v2 : Int32) (v3 : Int32) (H : Heap) (locs : List Loc) (ls : Array Slot), k6 v1 v2 v3 = some r0 → Wo D A s [(oX5 a_P (.int P_gloves) (.int P_matters) (.int P_pride) (.int P_coins) (.ref a_P_house) (.ref a_P_free) (.ref a_P_stuffed) (.ref a_P_after) (.ref a_P_weight) (.ref a_P_need)), (a_P_weight, .inl (cI, 5, .inl P_weight))] H locs → lv_has ls 4 [(0, .ref a_P), (1, .int v1), (2, .int v2), (3, .int v3)] → W p l e rm_X5_heaviest s m args below meth c H locs 0 0 (MQ below (QcI D A r0 [(oX5 a_P (.int P_gloves) (.int P_matters) (.int P_pride) (.int P_coins) (.ref a_P_house) (.ref a_P_free) (.ref a_P_stuffed) (.ref a_P_after) (.ref a_P_weight) (.ref a_P_need)), (a_P_weight, .inl (cI, 5, .inl P_weight))]) args s 0 0 A) (F0 m 6 ls [])) (v1 : Int32) (v2 : Int32) (v3 : Int32) {H : Heap} {locs : List Loc} {ls : Array Slot} (hf : b_X5_heaviest_33 P_matters P_weight k6 v1 v2 v3 = some r0) (hw : Wo D A s [(oX5 a_P (.int P_gloves) (.int P_matters) (.int P_pride) (.int P_coins) (.ref a_P_house) (.ref a_P_free) (.ref a_P_stuffed) (.ref a_P_after) (.ref a_P_weight) (.ref a_P_need)), (a_P_weight, .inl (cI, 5, .inl P_weight))] H locs) (hl : lv_has ls 4 [(0, .ref a_P), (1, .int v1), (2, .int v2), (3, .int v3)]) : W p l e rm_X5_heaviest s m args below meth c H locs 0 0 (MQ below (QcI D A r0 [(oX5 a_P (.int P_gloves) (.int P_matters) (.int P_pride) (.int P_coins) (.ref a_P_house) (.ref a_P_free) (.ref a_P_stuffed) (.ref a_P_after) (.ref a_P_weight) (.ref a_P_need)), (a_P_weight, .inl (cI, 5, .inl P_weight))]) args s 0 0 A) (F0 m 33 ls []) := by
  obtain ⟨hx, hb, hml, hown, hts, hr, hlk⟩ := id C
  obtain ⟨hK, hX, hA⟩ := id K
  unfold b_X5_heaviest_33 at hf
  obtain ⟨v3_1, e_v3_1, hf⟩ := bnd_some hf
  refine lv_iinc (v := v3_1) (lv' := [(3, .int v3_1), (0, .ref a_P), (1, .int v1), (2, .int v2)]) hx hb dX5_heaviest_33 hl (k := 3) rfl (by rw [e_v3_1]; rfl) (by decide) rfl (fun ls hl => ?_)
  refine lv_goto (tgt := 6) hx hb dX5_heaviest_36 (by decide) ?_
  exact hk6 v1 v2 v3_1 _ _ _ hf hw (lv_sub hl [1, 2, 3, 0] rfl)
set_option maxHeartbeats 4000000 in
set_option maxRecDepth 100000 in
theorem q_X5_heaviest_6 {p : Program} {l : Launch} {e : Env} {s : State} {m : MethodId} {args : Array Value} {below : List Frame} {meth : Method} {c : Code} {sx : List sx_T} {D : va_G} {cI cZ cO : ClassId} {A : Nat → Prop} (C : Cx p s m args meth c RX5 wsX5_heaviest cX5_heaviest 4 (some .int)) (K : Kx sx D (tyL cI cZ cO) A s) (a_P : Nat) (a_P_house : Nat) (a_P_free : Nat) (a_P_stuffed : Nat) (a_P_after : Nat) (a_P_weight : Nat) (a_P_need : Nat) (P_gloves : Int32) (P_matters : Int32) (P_pride : Int32) (P_coins : Int32) (P_weight : Nat → Int32) (r0 : Int32)   (k6 : Int32 → Int32 → Int32 → Option (Int32)) (hk6 : ∀ (v1 : Int32) (v2 : Int32) (v3 : Int32) (H : Heap) (locs : List Loc) (ls : Array Slot), k6 v1 v2 v3 = some r0 → Wo D A s [(oX5 a_P (.int P_gloves) (.int P_matters) (.int P_pride) (.int P_coins) (.ref a_P_house) (.ref a_P_free) (.ref a_P_stuffed) (.ref a_P_after) (.ref a_P_weight) (.ref a_P_need)), (a_P_weight, .inl (cI, 5, .inl P_weight))] H locs → lv_has ls 4 [(0, .ref a_P), (1, .int v1), (2, .int v2), (3, .int v3)] → W p l e rm_X5_heaviest s m args below meth c H locs 0 0 (MQ below (QcI D A r0 [(oX5 a_P (.int P_gloves) (.int P_matters) (.int P_pride) (.int P_coins) (.ref a_P_house) (.ref a_P_free) (.ref a_P_stuffed) (.ref a_P_after) (.ref a_P_weight) (.ref a_P_need)), (a_P_weight, .inl (cI, 5, .inl P_weight))]) args s 0 0 A) (F0 m 6 ls [])) (v1 : Int32) (v2 : Int32) (v3 : Int32) {H : Heap} {locs : List Loc} {ls : Array Slot} (hf : b_X5_heaviest_6 P_matters P_weight k6 v1 v2 v3 = some r0) (hw : Wo D A s [(oX5 a_P (.int P_gloves) (.int P_matters) (.int P_pride) (.int P_coins) (.ref a_P_house) (.ref a_P_free) (.ref a_P_stuffed) (.ref a_P_after) (.ref a_P_weight) (.ref a_P_need)), (a_P_weight, .inl (cI, 5, .inl P_weight))] H locs) (hl : lv_has ls 4 [(0, .ref a_P), (1, .int v1), (2, .int v2), (3, .int v3)]) : W p l e rm_X5_heaviest s m args below meth c H locs 0 0 (MQ below (QcI D A r0 [(oX5 a_P (.int P_gloves) (.int P_matters) (.int P_pride) (.int P_coins) (.ref a_P_house) (.ref a_P_free) (.ref a_P_stuffed) (.ref a_P_after) (.ref a_P_weight) (.ref a_P_need)), (a_P_weight, .inl (cI, 5, .inl P_weight))]) args s 0 0 A) (F0 m 6 ls []) := by
  obtain ⟨hx, hb, hml, hown, hts, hr, hlk⟩ := id C
  obtain ⟨hK, hX, hA⟩ := id K
  unfold b_X5_heaviest_6 at hf
  refine lv_iload_n hx hb dX5_heaviest_6 rfl (lv_at hl 3 rfl) ?_
  refine lv_aload_n hx hb dX5_heaviest_7 rfl (lv_at hl 0 rfl) ?_
  refine va_get (ci := 5) (v := .int P_matters) (C := RX5) (T := TX5) (N := 10) hx hb hts in_X5_heaviest_X5 hown hK hw.1 0 rfl rfl 1 (by decide) (hts _ lk_X5_heaviest_0) (fun _ h9 => h9) rfl dX5_heaviest_8 ?_
  refine lv_icmp_ge (tgt := 39) hx hb dX5_heaviest_11 (by decide) (fun hc => ?_) (fun hc => ?_)
  · have hf := (if_pos hc).symm.trans hf
    refine lv_iload_n hx hb dX5_heaviest_39 rfl (lv_at hl 1 rfl) ?_
    clear hk6; cases hf
    exact retI C hw dX5_heaviest_40 rfl
  · have hf := (if_neg hc).symm.trans hf
    refine lv_aload_n hx hb dX5_heaviest_14 rfl (lv_at hl 0 rfl) ?_
    refine va_get (ci := 5) (v := .ref a_P_weight) (C := RX5) (T := TX5) (N := 10) hx hb hts in_X5_heaviest_X5 hown hK hw.1 0 rfl rfl 8 (by decide) (hts _ lk_X5_heaviest_1) (fun _ h9 => h9) rfl dX5_heaviest_15 ?_
    refine lv_iload_n hx hb dX5_heaviest_18 rfl (lv_at hl 3 rfl) ?_
    obtain ⟨hc_1, hf⟩ := gd_some hf
    refine va_iald hx hb hK hw.1 1 0 rfl rfl (inB_in hc_1) dX5_heaviest_19 ?_
    refine lv_iload_n hx hb dX5_heaviest_20 rfl (lv_at hl 2 rfl) ?_
    refine lv_icmp_le (tgt := 33) hx hb dX5_heaviest_21 (by decide) (fun hc => ?_) (fun hc => ?_)
    · have hf := (if_pos hc).symm.trans hf
      exact q_X5_heaviest_33 C K a_P a_P_house a_P_free a_P_stuffed a_P_after a_P_weight a_P_need P_gloves P_matters P_pride P_coins P_weight r0 k6 hk6 v1 v2 v3 hf hw (lv_sub hl [0, 1, 2, 3] rfl)
    · have hf := (if_neg hc).symm.trans hf
      refine lv_aload_n hx hb dX5_heaviest_24 rfl (lv_at hl 0 rfl) ?_
      refine va_get (ci := 5) (v := .ref a_P_weight) (C := RX5) (T := TX5) (N := 10) hx hb hts in_X5_heaviest_X5 hown hK hw.1 0 rfl rfl 8 (by decide) (hts _ lk_X5_heaviest_1) (fun _ h9 => h9) rfl dX5_heaviest_25 ?_
      refine lv_iload_n hx hb dX5_heaviest_28 rfl (lv_at hl 3 rfl) ?_
      obtain ⟨hc_2, hf⟩ := gd_some hf
      refine va_iald hx hb hK hw.1 1 0 rfl rfl (inB_in hc_2) dX5_heaviest_29 ?_
      obtain ⟨v2_3, e_v2_3, hf⟩ := bnd_some hf
      refine lv_nmi e_v2_3 ?_
      refine lv_istore_n (lv' := [(2, .int v2_3), (0, .ref a_P), (1, .int v1), (3, .int v3)]) hx hb dX5_heaviest_30 rfl hl (by decide) rfl (fun ls hl => ?_)
      refine lv_iload_n hx hb dX5_heaviest_31 rfl (lv_at hl 3 rfl) ?_
      refine lv_istore_n (lv' := [(1, .int v3), (2, .int v2_3), (0, .ref a_P), (3, .int v3)]) hx hb dX5_heaviest_32 rfl hl (by decide) rfl (fun ls hl => ?_)
      exact q_X5_heaviest_33 C K a_P a_P_house a_P_free a_P_stuffed a_P_after a_P_weight a_P_need P_gloves P_matters P_pride P_coins P_weight r0 k6 hk6 v3 v2_3 v3 hf hw (lv_sub hl [2, 0, 1, 3] rfl)
theorem qf_X5_heaviest_6 {p : Program} {l : Launch} {e : Env} {s : State} {m : MethodId} {args : Array Value} {below : List Frame} {meth : Method} {c : Code} {sx : List sx_T} {D : va_G} {cI cZ cO : ClassId} {A : Nat → Prop} (C : Cx p s m args meth c RX5 wsX5_heaviest cX5_heaviest 4 (some .int)) (K : Kx sx D (tyL cI cZ cO) A s) (a_P : Nat) (a_P_house : Nat) (a_P_free : Nat) (a_P_stuffed : Nat) (a_P_after : Nat) (a_P_weight : Nat) (a_P_need : Nat) (P_gloves : Int32) (P_matters : Int32) (P_pride : Int32) (P_coins : Int32) (P_weight : Nat → Int32) (r0 : Int32)    (n : Nat) : ∀ (v1 : Int32) (v2 : Int32) (v3 : Int32) (H : Heap) (locs : List Loc) (ls : Array Slot), f_X5_heaviest_6 P_matters P_weight  n v1 v2 v3 = some r0 → Wo D A s [(oX5 a_P (.int P_gloves) (.int P_matters) (.int P_pride) (.int P_coins) (.ref a_P_house) (.ref a_P_free) (.ref a_P_stuffed) (.ref a_P_after) (.ref a_P_weight) (.ref a_P_need)), (a_P_weight, .inl (cI, 5, .inl P_weight))] H locs → lv_has ls 4 [(0, .ref a_P), (1, .int v1), (2, .int v2), (3, .int v3)] → W p l e rm_X5_heaviest s m args below meth c H locs 0 0 (MQ below (QcI D A r0 [(oX5 a_P (.int P_gloves) (.int P_matters) (.int P_pride) (.int P_coins) (.ref a_P_house) (.ref a_P_free) (.ref a_P_stuffed) (.ref a_P_after) (.ref a_P_weight) (.ref a_P_need)), (a_P_weight, .inl (cI, 5, .inl P_weight))]) args s 0 0 A) (F0 m 6 ls []) := by
  induction n with
  | zero =>
    intro v1 v2 v3 H locs ls hf
    have h9 : (none : Option (Int32)) = some r0 := hf
    cases h9
  | succ n ih =>
    intro v1 v2 v3 H locs ls hf hw hl
    exact q_X5_heaviest_6 C K a_P a_P_house a_P_free a_P_stuffed a_P_after a_P_weight a_P_need P_gloves P_matters P_pride P_coins P_weight r0  (f_X5_heaviest_6 P_matters P_weight  n) ih v1 v2 v3 hf hw hl
set_option maxHeartbeats 4000000 in
set_option maxRecDepth 100000 in
theorem q_X5_heaviest_0 {p : Program} {l : Launch} {e : Env} {s : State} {m : MethodId} {args : Array Value} {below : List Frame} {meth : Method} {c : Code} {sx : List sx_T} {D : va_G} {cI cZ cO : ClassId} {A : Nat → Prop} (C : Cx p s m args meth c RX5 wsX5_heaviest cX5_heaviest 4 (some .int)) (K : Kx sx D (tyL cI cZ cO) A s) (a_P : Nat) (a_P_house : Nat) (a_P_free : Nat) (a_P_stuffed : Nat) (a_P_after : Nat) (a_P_weight : Nat) (a_P_need : Nat) (P_gloves : Int32) (P_matters : Int32) (P_pride : Int32) (P_coins : Int32) (P_weight : Nat → Int32) (r0 : Int32)     {H : Heap} {locs : List Loc} {ls : Array Slot} (hf : b_X5_heaviest_0 P_matters P_weight   = some r0) (hw : Wo D A s [(oX5 a_P (.int P_gloves) (.int P_matters) (.int P_pride) (.int P_coins) (.ref a_P_house) (.ref a_P_free) (.ref a_P_stuffed) (.ref a_P_after) (.ref a_P_weight) (.ref a_P_need)), (a_P_weight, .inl (cI, 5, .inl P_weight))] H locs) (hl : lv_has ls 4 [(0, .ref a_P)]) : W p l e rm_X5_heaviest s m args below meth c H locs 0 0 (MQ below (QcI D A r0 [(oX5 a_P (.int P_gloves) (.int P_matters) (.int P_pride) (.int P_coins) (.ref a_P_house) (.ref a_P_free) (.ref a_P_stuffed) (.ref a_P_after) (.ref a_P_weight) (.ref a_P_need)), (a_P_weight, .inl (cI, 5, .inl P_weight))]) args s 0 0 A) (F0 m 0 ls []) := by
  obtain ⟨hx, hb, hml, hown, hts, hr, hlk⟩ := id C
  obtain ⟨hK, hX, hA⟩ := id K
  unfold b_X5_heaviest_0 at hf
  refine lv_iconst (v := (-1 : Int32)) hx hb dX5_heaviest_0 (by decide) ?_
  refine lv_istore_n (lv' := [(1, .int (-1 : Int32)), (0, .ref a_P)]) hx hb dX5_heaviest_1 rfl hl (by decide) rfl (fun ls hl => ?_)
  refine lv_iconst (v := (-1 : Int32)) hx hb dX5_heaviest_2 (by decide) ?_
  refine lv_istore_n (lv' := [(2, .int (-1 : Int32)), (1, .int (-1 : Int32)), (0, .ref a_P)]) hx hb dX5_heaviest_3 rfl hl (by decide) rfl (fun ls hl => ?_)
  refine lv_iconst (v := (0 : Int32)) hx hb dX5_heaviest_4 (by decide) ?_
  refine lv_istore_n (lv' := [(3, .int (0 : Int32)), (2, .int (-1 : Int32)), (1, .int (-1 : Int32)), (0, .ref a_P)]) hx hb dX5_heaviest_5 rfl hl (by decide) rfl (fun ls hl => ?_)
  exact qf_X5_heaviest_6 C K a_P a_P_house a_P_free a_P_stuffed a_P_after a_P_weight a_P_need P_gloves P_matters P_pride P_coins P_weight r0  fu (-1 : Int32) (-1 : Int32) (0 : Int32) _ _ _ hf hw (lv_sub hl [3, 2, 1, 0] rfl)
set_option maxHeartbeats 4000000 in
set_option maxRecDepth 100000 in
theorem k_X5_heaviest {l : Launch} {sx : List sx_T} {D : va_G} {cI cZ cO : ClassId} (a_P : Nat) (a_P_house : Nat) (a_P_free : Nat) (a_P_stuffed : Nat) (a_P_after : Nat) (a_P_weight : Nat) (a_P_need : Nat) (P_gloves : Int32) (P_matters : Int32) (P_pride : Int32) (P_coins : Int32) (P_weight : Nat → Int32) (r0 : Int32) (hF : f_X5_heaviest P_matters P_weight = some r0) : CtI l yX5_heaviest wsX5_heaviest rm_X5_heaviest sx D (tyL cI cZ cO) [.ref a_P] [(oX5 a_P (.int P_gloves) (.int P_matters) (.int P_pride) (.int P_coins) (.ref a_P_house) (.ref a_P_free) (.ref a_P_stuffed) (.ref a_P_after) (.ref a_P_weight) (.ref a_P_need)), (a_P_weight, .inl (cI, 5, .inl P_weight))] r0 [(oX5 a_P (.int P_gloves) (.int P_matters) (.int P_pride) (.int P_coins) (.ref a_P_house) (.ref a_P_free) (.ref a_P_stuffed) (.ref a_P_after) (.ref a_P_weight) (.ref a_P_need)), (a_P_weight, .inl (cI, 5, .inl P_weight))] := by
  refine ctI_of (cc := cX5_heaviest) (ret := (some .int)) (maxL := 4) (by decide) rfl (Nat.le_of_ble_eq_true rfl) ?_
  intro p e s m below meth c A ls C K hw hl
  exact q_X5_heaviest_0 C K a_P a_P_house a_P_free a_P_stuffed a_P_after a_P_weight a_P_need P_gloves P_matters P_pride P_coins P_weight r0  hF hw (lv_sub hl [0] rfl)
