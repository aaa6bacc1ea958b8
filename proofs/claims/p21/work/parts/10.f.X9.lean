abbrev rm_X9_begin : Room := { frames := 0, cells := 0, slots := 0, locals := 0 }
theorem in_X9_begin_X9 : ∀ w ∈ u_ws RX9 TX9 3, w ∈ wsX9_begin := fun w h => List.mem_cons_of_mem _ (bi_wsX90 w h)
theorem in_X9_begin_X5 : ∀ w ∈ u_ws RX5 TX5 10, w ∈ wsX9_begin := fun w h => List.mem_cons_of_mem _ (bi_wsX50 w h)
theorem lk_X9_begin_0 : Cond.fieldLink RX9 11 "GloveHouses$State" "cells" "[I" ∈ wsX9_begin := List.mem_cons_of_mem _ (bi_wsL_law0_r5 _ (List.mem_of_getElem? (i := 11) rfl))
theorem lk_X9_begin_1 : Cond.fieldLink RX9 15 "GloveHouses$State" "told" "LGloveHouses$Peace;" ∈ wsX9_begin := List.mem_cons_of_mem _ (bi_wsL_law0_r5 _ (List.mem_of_getElem? (i := 12) rfl))
theorem lk_X9_begin_2 : Cond.fieldLink RX9 29 "GloveHouses$Peace" "free" "[I" ∈ wsX9_begin := List.mem_cons_of_mem _ (bi_wsL_law0_r21 _ (List.mem_of_getElem? (i := 1) rfl))
theorem lk_X9_begin_3 : Cond.fieldLink RX9 34 "GloveHouses$Peace" "stuffed" "[I" ∈ wsX9_begin := List.mem_cons_of_mem _ (bi_wsL_law0_r21 _ (List.mem_of_getElem? (i := 2) rfl))
theorem lk_X9_begin_4 : Cond.fieldLink RX9 37 "GloveHouses$Peace" "pride" "I" ∈ wsX9_begin := List.mem_cons_of_mem _ (bi_wsL_law0_r21 _ (List.mem_of_getElem? (i := 3) rfl))
theorem lk_X9_begin_5 : Cond.fieldLink RX9 41 "GloveHouses$Peace" "coins" "I" ∈ wsX9_begin := List.mem_cons_of_mem _ (bi_wsL_law0_r21 _ (List.mem_of_getElem? (i := 4) rfl))
set_option maxHeartbeats 4000000 in
set_option maxRecDepth 100000 in
theorem q_X9_begin_95 {p : Program} {l : Launch} {e : Env} {s : State} {m : MethodId} {args : Array Value} {below : List Frame} {meth : Method} {c : Code} {sx : List sx_T} {D : va_G} {cI cZ cO : ClassId} {A : Nat → Prop} (C : Cx p s m args meth c RX9 wsX9_begin cX9_begin 2 none) (K : Kx sx D (tyL cI cZ cO) A s) (a_told : Nat) (a_told_house : Nat) (a_told_free : Nat) (a_told_stuffed : Nat) (a_told_after : Nat) (a_told_weight : Nat) (a_told_need : Nat) (a_S : Nat) (a_S_cells : Nat) (a_laws : Nat) (told_gloves : Int32) (told_matters : Int32) (told_pride : Int32) (told_coins : Int32) (told_free : Nat → Int32) (told_stuffed : Nat → Int32) (o_S_cells : Nat → Int32)   (k95 : (Nat → Int32) → Int32 → Option ((Nat → Int32))) (hk95 : ∀ (S_cells : Nat → Int32) (v1 : Int32) (H : Heap) (locs : List Loc) (ls : Array Slot), k95 S_cells v1 = some o_S_cells → Wo D A s [(oX5 a_told (.int told_gloves) (.int told_matters) (.int told_pride) (.int told_coins) (.ref a_told_house) (.ref a_told_free) (.ref a_told_stuffed) (.ref a_told_after) (.ref a_told_weight) (.ref a_told_need)), (a_told_free, .inl (cI, 6, .inl told_free)), (a_told_stuffed, .inl (cI, 6, .inl told_stuffed)), (oX9 a_S (.ref a_S_cells) (.ref a_told) (.ref a_laws)), (a_S_cells, .inl (cI, 69, .inl S_cells))] H locs → lv_has ls 2 [(0, .ref a_S), (1, .int v1)] → W p l e rm_X9_begin s m args below meth c H locs 0 0 (MQ below (QcV D A [(oX5 a_told (.int told_gloves) (.int told_matters) (.int told_pride) (.int told_coins) (.ref a_told_house) (.ref a_told_free) (.ref a_told_stuffed) (.ref a_told_after) (.ref a_told_weight) (.ref a_told_need)), (a_told_free, .inl (cI, 6, .inl told_free)), (a_told_stuffed, .inl (cI, 6, .inl told_stuffed)), (oX9 a_S (.ref a_S_cells) (.ref a_told) (.ref a_laws)), (a_S_cells, .inl (cI, 69, .inl o_S_cells))]) args s 0 0 A) (F0 m 95 ls [])) (S_cells : Nat → Int32) (v1 : Int32) {H : Heap} {locs : List Loc} {ls : Array Slot} (hf : b_X9_begin_95 told_pride told_coins told_free told_stuffed k95 S_cells v1 = some o_S_cells) (hw : Wo D A s [(oX5 a_told (.int told_gloves) (.int told_matters) (.int told_pride) (.int told_coins) (.ref a_told_house) (.ref a_told_free) (.ref a_told_stuffed) (.ref a_told_after) (.ref a_told_weight) (.ref a_told_need)), (a_told_free, .inl (cI, 6, .inl told_free)), (a_told_stuffed, .inl (cI, 6, .inl told_stuffed)), (oX9 a_S (.ref a_S_cells) (.ref a_told) (.ref a_laws)), (a_S_cells, .inl (cI, 69, .inl S_cells))] H locs) (hl : lv_has ls 2 [(0, .ref a_S), (1, .int v1)]) : W p l e rm_X9_begin s m args below meth c H locs 0 0 (MQ below (QcV D A [(oX5 a_told (.int told_gloves) (.int told_matters) (.int told_pride) (.int told_coins) (.ref a_told_house) (.ref a_told_free) (.ref a_told_stuffed) (.ref a_told_after) (.ref a_told_weight) (.ref a_told_need)), (a_told_free, .inl (cI, 6, .inl told_free)), (a_told_stuffed, .inl (cI, 6, .inl told_stuffed)), (oX9 a_S (.ref a_S_cells) (.ref a_told) (.ref a_laws)), (a_S_cells, .inl (cI, 69, .inl o_S_cells))]) args s 0 0 A) (F0 m 95 ls []) := by
  obtain ⟨hx, hb, hml, hown, hts, hr, hlk⟩ := id C
  obtain ⟨hK, hX, hA⟩ := id K
  unfold b_X9_begin_95 at hf
  refine lv_iload_n hx hb dX9_begin_95 rfl (lv_at hl 1 rfl) ?_
  refine lv_iconst (v := (5 : Int32)) hx hb dX9_begin_96 (by decide) ?_
  refine lv_icmp_ge (tgt := 116) hx hb dX9_begin_97 (by decide) (fun hc => ?_) (fun hc => ?_)
  · have hf := (if_pos hc).symm.trans hf
    refine lv_aload_n hx hb dX9_begin_116 rfl (lv_at hl 0 rfl) ?_
    refine va_get (ci := 9) (v := .ref a_S_cells) (C := RX9) (T := TX9) (N := 3) hx hb hts in_X9_begin_X9 hown hK hw.1 3 rfl rfl 0 (by decide) (hts _ lk_X9_begin_0) (fun _ h9 => h9) rfl dX9_begin_117 ?_
    refine lv_bipush (v := (65 : Int32)) hx hb dX9_begin_120 (by decide) ?_
    refine lv_iconst (v := (0 : Int32)) hx hb dX9_begin_122 (by decide) ?_
    obtain ⟨hc_1, hf⟩ := gd_some hf
    obtain ⟨S_cells_2, e_S_cells_2, hf⟩ := bnd_some hf
    refine va_iast hx hb hK hw.1 hw.2.1 hw.2.2 4 0 rfl rfl (inB_in hc_1) dX9_begin_123 (fun H locs hP hD hS => ?_)
    have hw : Wo D A s [(oX5 a_told (.int told_gloves) (.int told_matters) (.int told_pride) (.int told_coins) (.ref a_told_house) (.ref a_told_free) (.ref a_told_stuffed) (.ref a_told_after) (.ref a_told_weight) (.ref a_told_need)), (a_told_free, .inl (cI, 6, .inl told_free)), (a_told_stuffed, .inl (cI, 6, .inl told_stuffed)), (oX9 a_S (.ref a_S_cells) (.ref a_told) (.ref a_laws)), (a_S_cells, .inl (cI, 69, .inl S_cells_2))] H locs := by rw [e_S_cells_2]; exact ⟨hP, hD, hS⟩
    refine lv_aload_n hx hb dX9_begin_124 rfl (lv_at hl 0 rfl) ?_
    refine va_get (ci := 9) (v := .ref a_S_cells) (C := RX9) (T := TX9) (N := 3) hx hb hts in_X9_begin_X9 hown hK hw.1 3 rfl rfl 0 (by decide) (hts _ lk_X9_begin_0) (fun _ h9 => h9) rfl dX9_begin_125 ?_
    refine lv_bipush (v := (66 : Int32)) hx hb dX9_begin_128 (by decide) ?_
    refine lv_aload_n hx hb dX9_begin_130 rfl (lv_at hl 0 rfl) ?_
    refine va_get (ci := 9) (v := .ref a_told) (C := RX9) (T := TX9) (N := 3) hx hb hts in_X9_begin_X9 hown hK hw.1 3 rfl rfl 1 (by decide) (hts _ lk_X9_begin_1) (fun _ h9 => h9) rfl dX9_begin_131 ?_
    refine va_get (ci := 5) (v := .int told_pride) (C := RX5) (T := TX5) (N := 10) hx hb hts in_X9_begin_X5 hown hK hw.1 0 rfl rfl 2 (by decide) (hts _ lk_X9_begin_4) (fun _ h9 => h9) rfl dX9_begin_134 ?_
    obtain ⟨hc_3, hf⟩ := gd_some hf
    obtain ⟨S_cells_4, e_S_cells_4, hf⟩ := bnd_some hf
    refine va_iast hx hb hK hw.1 hw.2.1 hw.2.2 4 0 rfl rfl (inB_in hc_3) dX9_begin_137 (fun H locs hP hD hS => ?_)
    have hw : Wo D A s [(oX5 a_told (.int told_gloves) (.int told_matters) (.int told_pride) (.int told_coins) (.ref a_told_house) (.ref a_told_free) (.ref a_told_stuffed) (.ref a_told_after) (.ref a_told_weight) (.ref a_told_need)), (a_told_free, .inl (cI, 6, .inl told_free)), (a_told_stuffed, .inl (cI, 6, .inl told_stuffed)), (oX9 a_S (.ref a_S_cells) (.ref a_told) (.ref a_laws)), (a_S_cells, .inl (cI, 69, .inl S_cells_4))] H locs := by rw [e_S_cells_4]; exact ⟨hP, hD, hS⟩
    refine lv_aload_n hx hb dX9_begin_138 rfl (lv_at hl 0 rfl) ?_
    refine va_get (ci := 9) (v := .ref a_S_cells) (C := RX9) (T := TX9) (N := 3) hx hb hts in_X9_begin_X9 hown hK hw.1 3 rfl rfl 0 (by decide) (hts _ lk_X9_begin_0) (fun _ h9 => h9) rfl dX9_begin_139 ?_
    refine lv_bipush (v := (67 : Int32)) hx hb dX9_begin_142 (by decide) ?_
    refine lv_aload_n hx hb dX9_begin_144 rfl (lv_at hl 0 rfl) ?_
    refine va_get (ci := 9) (v := .ref a_told) (C := RX9) (T := TX9) (N := 3) hx hb hts in_X9_begin_X9 hown hK hw.1 3 rfl rfl 1 (by decide) (hts _ lk_X9_begin_1) (fun _ h9 => h9) rfl dX9_begin_145 ?_
    refine va_get (ci := 5) (v := .int told_coins) (C := RX5) (T := TX5) (N := 10) hx hb hts in_X9_begin_X5 hown hK hw.1 0 rfl rfl 3 (by decide) (hts _ lk_X9_begin_5) (fun _ h9 => h9) rfl dX9_begin_148 ?_
    obtain ⟨hc_5, hf⟩ := gd_some hf
    obtain ⟨S_cells_6, e_S_cells_6, hf⟩ := bnd_some hf
    refine va_iast hx hb hK hw.1 hw.2.1 hw.2.2 4 0 rfl rfl (inB_in hc_5) dX9_begin_151 (fun H locs hP hD hS => ?_)
    have hw : Wo D A s [(oX5 a_told (.int told_gloves) (.int told_matters) (.int told_pride) (.int told_coins) (.ref a_told_house) (.ref a_told_free) (.ref a_told_stuffed) (.ref a_told_after) (.ref a_told_weight) (.ref a_told_need)), (a_told_free, .inl (cI, 6, .inl told_free)), (a_told_stuffed, .inl (cI, 6, .inl told_stuffed)), (oX9 a_S (.ref a_S_cells) (.ref a_told) (.ref a_laws)), (a_S_cells, .inl (cI, 69, .inl S_cells_6))] H locs := by rw [e_S_cells_6]; exact ⟨hP, hD, hS⟩
    refine lv_aload_n hx hb dX9_begin_152 rfl (lv_at hl 0 rfl) ?_
    refine va_get (ci := 9) (v := .ref a_S_cells) (C := RX9) (T := TX9) (N := 3) hx hb hts in_X9_begin_X9 hown hK hw.1 3 rfl rfl 0 (by decide) (hts _ lk_X9_begin_0) (fun _ h9 => h9) rfl dX9_begin_153 ?_
    refine lv_bipush (v := (68 : Int32)) hx hb dX9_begin_156 (by decide) ?_
    refine lv_iconst (v := (0 : Int32)) hx hb dX9_begin_158 (by decide) ?_
    obtain ⟨hc_7, hf⟩ := gd_some hf
    obtain ⟨S_cells_8, e_S_cells_8, hf⟩ := bnd_some hf
    refine va_iast hx hb hK hw.1 hw.2.1 hw.2.2 4 0 rfl rfl (inB_in hc_7) dX9_begin_159 (fun H locs hP hD hS => ?_)
    have hw : Wo D A s [(oX5 a_told (.int told_gloves) (.int told_matters) (.int told_pride) (.int told_coins) (.ref a_told_house) (.ref a_told_free) (.ref a_told_stuffed) (.ref a_told_after) (.ref a_told_weight) (.ref a_told_need)), (a_told_free, .inl (cI, 6, .inl told_free)), (a_told_stuffed, .inl (cI, 6, .inl told_stuffed)), (oX9 a_S (.ref a_S_cells) (.ref a_told) (.ref a_laws)), (a_S_cells, .inl (cI, 69, .inl S_cells_8))] H locs := by rw [e_S_cells_8]; exact ⟨hP, hD, hS⟩
    clear hk95; cases hf
    exact retV C hw dX9_begin_160
  · have hf := (if_neg hc).symm.trans hf
    refine lv_aload_n hx hb dX9_begin_100 rfl (lv_at hl 0 rfl) ?_
    refine va_get (ci := 9) (v := .ref a_S_cells) (C := RX9) (T := TX9) (N := 3) hx hb hts in_X9_begin_X9 hown hK hw.1 3 rfl rfl 0 (by decide) (hts _ lk_X9_begin_0) (fun _ h9 => h9) rfl dX9_begin_101 ?_
    refine lv_bipush (v := (60 : Int32)) hx hb dX9_begin_104 (by decide) ?_
    refine lv_iload_n hx hb dX9_begin_106 rfl (lv_at hl 1 rfl) ?_
    refine lv_iadd hx hb dX9_begin_107 ?_
    refine lv_iconst (v := (-1 : Int32)) hx hb dX9_begin_108 (by decide) ?_
    obtain ⟨hc_9, hf⟩ := gd_some hf
    obtain ⟨S_cells_10, e_S_cells_10, hf⟩ := bnd_some hf
    refine va_iast hx hb hK hw.1 hw.2.1 hw.2.2 4 0 rfl rfl (inB_in hc_9) dX9_begin_109 (fun H locs hP hD hS => ?_)
    have hw : Wo D A s [(oX5 a_told (.int told_gloves) (.int told_matters) (.int told_pride) (.int told_coins) (.ref a_told_house) (.ref a_told_free) (.ref a_told_stuffed) (.ref a_told_after) (.ref a_told_weight) (.ref a_told_need)), (a_told_free, .inl (cI, 6, .inl told_free)), (a_told_stuffed, .inl (cI, 6, .inl told_stuffed)), (oX9 a_S (.ref a_S_cells) (.ref a_told) (.ref a_laws)), (a_S_cells, .inl (cI, 69, .inl S_cells_10))] H locs := by rw [e_S_cells_10]; exact ⟨hP, hD, hS⟩
    obtain ⟨v1_11, e_v1_11, hf⟩ := bnd_some hf
    refine lv_iinc (v := v1_11) (lv' := [(1, .int v1_11), (0, .ref a_S)]) hx hb dX9_begin_110 hl (k := 1) rfl (by rw [e_v1_11]; rfl) (by decide) rfl (fun ls hl => ?_)
    refine lv_goto (tgt := 95) hx hb dX9_begin_113 (by decide) ?_
    exact hk95 S_cells_10 v1_11 _ _ _ hf hw (lv_sub hl [1, 0] rfl)
theorem qf_X9_begin_95 {p : Program} {l : Launch} {e : Env} {s : State} {m : MethodId} {args : Array Value} {below : List Frame} {meth : Method} {c : Code} {sx : List sx_T} {D : va_G} {cI cZ cO : ClassId} {A : Nat → Prop} (C : Cx p s m args meth c RX9 wsX9_begin cX9_begin 2 none) (K : Kx sx D (tyL cI cZ cO) A s) (a_told : Nat) (a_told_house : Nat) (a_told_free : Nat) (a_told_stuffed : Nat) (a_told_after : Nat) (a_told_weight : Nat) (a_told_need : Nat) (a_S : Nat) (a_S_cells : Nat) (a_laws : Nat) (told_gloves : Int32) (told_matters : Int32) (told_pride : Int32) (told_coins : Int32) (told_free : Nat → Int32) (told_stuffed : Nat → Int32) (o_S_cells : Nat → Int32)    (n : Nat) : ∀ (S_cells : Nat → Int32) (v1 : Int32) (H : Heap) (locs : List Loc) (ls : Array Slot), f_X9_begin_95 told_pride told_coins told_free told_stuffed  n S_cells v1 = some o_S_cells → Wo D A s [(oX5 a_told (.int told_gloves) (.int told_matters) (.int told_pride) (.int told_coins) (.ref a_told_house) (.ref a_told_free) (.ref a_told_stuffed) (.ref a_told_after) (.ref a_told_weight) (.ref a_told_need)), (a_told_free, .inl (cI, 6, .inl told_free)), (a_told_stuffed, .inl (cI, 6, .inl told_stuffed)), (oX9 a_S (.ref a_S_cells) (.ref a_told) (.ref a_laws)), (a_S_cells, .inl (cI, 69, .inl S_cells))] H locs → lv_has ls 2 [(0, .ref a_S), (1, .int v1)] → W p l e rm_X9_begin s m args below meth c H locs 0 0 (MQ below (QcV D A [(oX5 a_told (.int told_gloves) (.int told_matters) (.int told_pride) (.int told_coins) (.ref a_told_house) (.ref a_told_free) (.ref a_told_stuffed) (.ref a_told_after) (.ref a_told_weight) (.ref a_told_need)), (a_told_free, .inl (cI, 6, .inl told_free)), (a_told_stuffed, .inl (cI, 6, .inl told_stuffed)), (oX9 a_S (.ref a_S_cells) (.ref a_told) (.ref a_laws)), (a_S_cells, .inl (cI, 69, .inl o_S_cells))]) args s 0 0 A) (F0 m 95 ls []) := by
  induction n with
  | zero =>
    intro S_cells v1 H locs ls hf
    have h9 : (none : Option ((Nat → Int32))) = some o_S_cells := hf
    cases h9
  | succ n ih =>
    intro S_cells v1 H locs ls hf hw hl
    exact q_X9_begin_95 C K a_told a_told_house a_told_free a_told_stuffed a_told_after a_told_weight a_told_need a_S a_S_cells a_laws told_gloves told_matters told_pride told_coins told_free told_stuffed o_S_cells  (f_X9_begin_95 told_pride told_coins told_free told_stuffed  n) ih S_cells v1 hf hw hl
set_option maxHeartbeats 4000000 in
set_option maxRecDepth 100000 in
theorem q_X9_begin_23 {p : Program} {l : Launch} {e : Env} {s : State} {m : MethodId} {args : Array Value} {below : List Frame} {meth : Method} {c : Code} {sx : List sx_T} {D : va_G} {cI cZ cO : ClassId} {A : Nat → Prop} (C : Cx p s m args meth c RX9 wsX9_begin cX9_begin 2 none) (K : Kx sx D (tyL cI cZ cO) A s) (a_told : Nat) (a_told_house : Nat) (a_told_free : Nat) (a_told_stuffed : Nat) (a_told_after : Nat) (a_told_weight : Nat) (a_told_need : Nat) (a_S : Nat) (a_S_cells : Nat) (a_laws : Nat) (told_gloves : Int32) (told_matters : Int32) (told_pride : Int32) (told_coins : Int32) (told_free : Nat → Int32) (told_stuffed : Nat → Int32) (o_S_cells : Nat → Int32)   (k23 : (Nat → Int32) → Int32 → Option ((Nat → Int32))) (hk23 : ∀ (S_cells : Nat → Int32) (v1 : Int32) (H : Heap) (locs : List Loc) (ls : Array Slot), k23 S_cells v1 = some o_S_cells → Wo D A s [(oX5 a_told (.int told_gloves) (.int told_matters) (.int told_pride) (.int told_coins) (.ref a_told_house) (.ref a_told_free) (.ref a_told_stuffed) (.ref a_told_after) (.ref a_told_weight) (.ref a_told_need)), (a_told_free, .inl (cI, 6, .inl told_free)), (a_told_stuffed, .inl (cI, 6, .inl told_stuffed)), (oX9 a_S (.ref a_S_cells) (.ref a_told) (.ref a_laws)), (a_S_cells, .inl (cI, 69, .inl S_cells))] H locs → lv_has ls 2 [(0, .ref a_S), (1, .int v1)] → W p l e rm_X9_begin s m args below meth c H locs 0 0 (MQ below (QcV D A [(oX5 a_told (.int told_gloves) (.int told_matters) (.int told_pride) (.int told_coins) (.ref a_told_house) (.ref a_told_free) (.ref a_told_stuffed) (.ref a_told_after) (.ref a_told_weight) (.ref a_told_need)), (a_told_free, .inl (cI, 6, .inl told_free)), (a_told_stuffed, .inl (cI, 6, .inl told_stuffed)), (oX9 a_S (.ref a_S_cells) (.ref a_told) (.ref a_laws)), (a_S_cells, .inl (cI, 69, .inl o_S_cells))]) args s 0 0 A) (F0 m 23 ls [])) (S_cells : Nat → Int32) (v1 : Int32) {H : Heap} {locs : List Loc} {ls : Array Slot} (hf : b_X9_begin_23 told_pride told_coins told_free told_stuffed k23 S_cells v1 = some o_S_cells) (hw : Wo D A s [(oX5 a_told (.int told_gloves) (.int told_matters) (.int told_pride) (.int told_coins) (.ref a_told_house) (.ref a_told_free) (.ref a_told_stuffed) (.ref a_told_after) (.ref a_told_weight) (.ref a_told_need)), (a_told_free, .inl (cI, 6, .inl told_free)), (a_told_stuffed, .inl (cI, 6, .inl told_stuffed)), (oX9 a_S (.ref a_S_cells) (.ref a_told) (.ref a_laws)), (a_S_cells, .inl (cI, 69, .inl S_cells))] H locs) (hl : lv_has ls 2 [(0, .ref a_S), (1, .int v1)]) : W p l e rm_X9_begin s m args below meth c H locs 0 0 (MQ below (QcV D A [(oX5 a_told (.int told_gloves) (.int told_matters) (.int told_pride) (.int told_coins) (.ref a_told_house) (.ref a_told_free) (.ref a_told_stuffed) (.ref a_told_after) (.ref a_told_weight) (.ref a_told_need)), (a_told_free, .inl (cI, 6, .inl told_free)), (a_told_stuffed, .inl (cI, 6, .inl told_stuffed)), (oX9 a_S (.ref a_S_cells) (.ref a_told) (.ref a_laws)), (a_S_cells, .inl (cI, 69, .inl o_S_cells))]) args s 0 0 A) (F0 m 23 ls []) := by
  obtain ⟨hx, hb, hml, hown, hts, hr, hlk⟩ := id C
  obtain ⟨hK, hX, hA⟩ := id K
  unfold b_X9_begin_23 at hf
  refine lv_iload_n hx hb dX9_begin_23 rfl (lv_at hl 1 rfl) ?_
  refine lv_bipush (v := (6 : Int32)) hx hb dX9_begin_24 (by decide) ?_
  refine lv_icmp_ge (tgt := 93) hx hb dX9_begin_26 (by decide) (fun hc => ?_) (fun hc => ?_)
  · have hf := (if_pos hc).symm.trans hf
    refine lv_iconst (v := (0 : Int32)) hx hb dX9_begin_93 (by decide) ?_
    refine lv_istore_n (lv' := [(1, .int (0 : Int32)), (0, .ref a_S)]) hx hb dX9_begin_94 rfl hl (by decide) rfl (fun ls hl => ?_)
    exact qf_X9_begin_95 C K a_told a_told_house a_told_free a_told_stuffed a_told_after a_told_weight a_told_need a_S a_S_cells a_laws told_gloves told_matters told_pride told_coins told_free told_stuffed o_S_cells  fu S_cells (0 : Int32) _ _ _ hf hw (lv_sub hl [1, 0] rfl)
  · have hf := (if_neg hc).symm.trans hf
    refine lv_aload_n hx hb dX9_begin_29 rfl (lv_at hl 0 rfl) ?_
    refine va_get (ci := 9) (v := .ref a_S_cells) (C := RX9) (T := TX9) (N := 3) hx hb hts in_X9_begin_X9 hown hK hw.1 3 rfl rfl 0 (by decide) (hts _ lk_X9_begin_0) (fun _ h9 => h9) rfl dX9_begin_30 ?_
    refine lv_bipush (v := (36 : Int32)) hx hb dX9_begin_33 (by decide) ?_
    refine lv_iload_n hx hb dX9_begin_35 rfl (lv_at hl 1 rfl) ?_
    refine lv_iadd hx hb dX9_begin_36 ?_
    refine lv_aload_n hx hb dX9_begin_37 rfl (lv_at hl 0 rfl) ?_
    refine va_get (ci := 9) (v := .ref a_told) (C := RX9) (T := TX9) (N := 3) hx hb hts in_X9_begin_X9 hown hK hw.1 3 rfl rfl 1 (by decide) (hts _ lk_X9_begin_1) (fun _ h9 => h9) rfl dX9_begin_38 ?_
    refine va_get (ci := 5) (v := .ref a_told_free) (C := RX5) (T := TX5) (N := 10) hx hb hts in_X9_begin_X5 hown hK hw.1 0 rfl rfl 5 (by decide) (hts _ lk_X9_begin_2) (fun _ h9 => h9) rfl dX9_begin_41 ?_
    refine lv_iload_n hx hb dX9_begin_44 rfl (lv_at hl 1 rfl) ?_
    obtain ⟨hc_1, hf⟩ := gd_some hf
    refine va_iald hx hb hK hw.1 1 0 rfl rfl (inB_in hc_1) dX9_begin_45 ?_
    obtain ⟨hc_2, hf⟩ := gd_some hf
    obtain ⟨S_cells_3, e_S_cells_3, hf⟩ := bnd_some hf
    refine va_iast hx hb hK hw.1 hw.2.1 hw.2.2 4 0 rfl rfl (inB_in hc_2) dX9_begin_46 (fun H locs hP hD hS => ?_)
    have hw : Wo D A s [(oX5 a_told (.int told_gloves) (.int told_matters) (.int told_pride) (.int told_coins) (.ref a_told_house) (.ref a_told_free) (.ref a_told_stuffed) (.ref a_told_after) (.ref a_told_weight) (.ref a_told_need)), (a_told_free, .inl (cI, 6, .inl told_free)), (a_told_stuffed, .inl (cI, 6, .inl told_stuffed)), (oX9 a_S (.ref a_S_cells) (.ref a_told) (.ref a_laws)), (a_S_cells, .inl (cI, 69, .inl S_cells_3))] H locs := by rw [e_S_cells_3]; exact ⟨hP, hD, hS⟩
    refine lv_aload_n hx hb dX9_begin_47 rfl (lv_at hl 0 rfl) ?_
    refine va_get (ci := 9) (v := .ref a_S_cells) (C := RX9) (T := TX9) (N := 3) hx hb hts in_X9_begin_X9 hown hK hw.1 3 rfl rfl 0 (by decide) (hts _ lk_X9_begin_0) (fun _ h9 => h9) rfl dX9_begin_48 ?_
    refine lv_bipush (v := (42 : Int32)) hx hb dX9_begin_51 (by decide) ?_
    refine lv_iload_n hx hb dX9_begin_53 rfl (lv_at hl 1 rfl) ?_
    refine lv_iadd hx hb dX9_begin_54 ?_
    refine lv_aload_n hx hb dX9_begin_55 rfl (lv_at hl 0 rfl) ?_
    refine va_get (ci := 9) (v := .ref a_told) (C := RX9) (T := TX9) (N := 3) hx hb hts in_X9_begin_X9 hown hK hw.1 3 rfl rfl 1 (by decide) (hts _ lk_X9_begin_1) (fun _ h9 => h9) rfl dX9_begin_56 ?_
    refine va_get (ci := 5) (v := .ref a_told_stuffed) (C := RX5) (T := TX5) (N := 10) hx hb hts in_X9_begin_X5 hown hK hw.1 0 rfl rfl 6 (by decide) (hts _ lk_X9_begin_3) (fun _ h9 => h9) rfl dX9_begin_59 ?_
    refine lv_iload_n hx hb dX9_begin_62 rfl (lv_at hl 1 rfl) ?_
    obtain ⟨hc_4, hf⟩ := gd_some hf
    refine va_iald hx hb hK hw.1 2 0 rfl rfl (inB_in hc_4) dX9_begin_63 ?_
    obtain ⟨hc_5, hf⟩ := gd_some hf
    obtain ⟨S_cells_6, e_S_cells_6, hf⟩ := bnd_some hf
    refine va_iast hx hb hK hw.1 hw.2.1 hw.2.2 4 0 rfl rfl (inB_in hc_5) dX9_begin_64 (fun H locs hP hD hS => ?_)
    have hw : Wo D A s [(oX5 a_told (.int told_gloves) (.int told_matters) (.int told_pride) (.int told_coins) (.ref a_told_house) (.ref a_told_free) (.ref a_told_stuffed) (.ref a_told_after) (.ref a_told_weight) (.ref a_told_need)), (a_told_free, .inl (cI, 6, .inl told_free)), (a_told_stuffed, .inl (cI, 6, .inl told_stuffed)), (oX9 a_S (.ref a_S_cells) (.ref a_told) (.ref a_laws)), (a_S_cells, .inl (cI, 69, .inl S_cells_6))] H locs := by rw [e_S_cells_6]; exact ⟨hP, hD, hS⟩
    refine lv_aload_n hx hb dX9_begin_65 rfl (lv_at hl 0 rfl) ?_
    refine va_get (ci := 9) (v := .ref a_S_cells) (C := RX9) (T := TX9) (N := 3) hx hb hts in_X9_begin_X9 hown hK hw.1 3 rfl rfl 0 (by decide) (hts _ lk_X9_begin_0) (fun _ h9 => h9) rfl dX9_begin_66 ?_
    refine lv_bipush (v := (48 : Int32)) hx hb dX9_begin_69 (by decide) ?_
    refine lv_iload_n hx hb dX9_begin_71 rfl (lv_at hl 1 rfl) ?_
    refine lv_iadd hx hb dX9_begin_72 ?_
    refine lv_iconst (v := (1 : Int32)) hx hb dX9_begin_73 (by decide) ?_
    refine lv_iload_n hx hb dX9_begin_74 rfl (lv_at hl 1 rfl) ?_
    refine lv_ishl hx hb dX9_begin_75 ?_
    obtain ⟨hc_7, hf⟩ := gd_some hf
    obtain ⟨S_cells_8, e_S_cells_8, hf⟩ := bnd_some hf
    refine va_iast hx hb hK hw.1 hw.2.1 hw.2.2 4 0 rfl rfl (inB_in hc_7) dX9_begin_76 (fun H locs hP hD hS => ?_)
    have hw : Wo D A s [(oX5 a_told (.int told_gloves) (.int told_matters) (.int told_pride) (.int told_coins) (.ref a_told_house) (.ref a_told_free) (.ref a_told_stuffed) (.ref a_told_after) (.ref a_told_weight) (.ref a_told_need)), (a_told_free, .inl (cI, 6, .inl told_free)), (a_told_stuffed, .inl (cI, 6, .inl told_stuffed)), (oX9 a_S (.ref a_S_cells) (.ref a_told) (.ref a_laws)), (a_S_cells, .inl (cI, 69, .inl S_cells_8))] H locs := by rw [e_S_cells_8]; exact ⟨hP, hD, hS⟩
    refine lv_aload_n hx hb dX9_begin_77 rfl (lv_at hl 0 rfl) ?_
    refine va_get (ci := 9) (v := .ref a_S_cells) (C := RX9) (T := TX9) (N := 3) hx hb hts in_X9_begin_X9 hown hK hw.1 3 rfl rfl 0 (by decide) (hts _ lk_X9_begin_0) (fun _ h9 => h9) rfl dX9_begin_78 ?_
    refine lv_bipush (v := (54 : Int32)) hx hb dX9_begin_81 (by decide) ?_
    refine lv_iload_n hx hb dX9_begin_83 rfl (lv_at hl 1 rfl) ?_
    refine lv_iadd hx hb dX9_begin_84 ?_
    refine lv_iconst (v := (-1 : Int32)) hx hb dX9_begin_85 (by decide) ?_
    obtain ⟨hc_9, hf⟩ := gd_some hf
    obtain ⟨S_cells_10, e_S_cells_10, hf⟩ := bnd_some hf
    refine va_iast hx hb hK hw.1 hw.2.1 hw.2.2 4 0 rfl rfl (inB_in hc_9) dX9_begin_86 (fun H locs hP hD hS => ?_)
    have hw : Wo D A s [(oX5 a_told (.int told_gloves) (.int told_matters) (.int told_pride) (.int told_coins) (.ref a_told_house) (.ref a_told_free) (.ref a_told_stuffed) (.ref a_told_after) (.ref a_told_weight) (.ref a_told_need)), (a_told_free, .inl (cI, 6, .inl told_free)), (a_told_stuffed, .inl (cI, 6, .inl told_stuffed)), (oX9 a_S (.ref a_S_cells) (.ref a_told) (.ref a_laws)), (a_S_cells, .inl (cI, 69, .inl S_cells_10))] H locs := by rw [e_S_cells_10]; exact ⟨hP, hD, hS⟩
    obtain ⟨v1_11, e_v1_11, hf⟩ := bnd_some hf
    refine lv_iinc (v := v1_11) (lv' := [(1, .int v1_11), (0, .ref a_S)]) hx hb dX9_begin_87 hl (k := 1) rfl (by rw [e_v1_11]; rfl) (by decide) rfl (fun ls hl => ?_)
    refine lv_goto (tgt := 23) hx hb dX9_begin_90 (by decide) ?_
    exact hk23 S_cells_10 v1_11 _ _ _ hf hw (lv_sub hl [1, 0] rfl)
theorem qf_X9_begin_23 {p : Program} {l : Launch} {e : Env} {s : State} {m : MethodId} {args : Array Value} {below : List Frame} {meth : Method} {c : Code} {sx : List sx_T} {D : va_G} {cI cZ cO : ClassId} {A : Nat → Prop} (C : Cx p s m args meth c RX9 wsX9_begin cX9_begin 2 none) (K : Kx sx D (tyL cI cZ cO) A s) (a_told : Nat) (a_told_house : Nat) (a_told_free : Nat) (a_told_stuffed : Nat) (a_told_after : Nat) (a_told_weight : Nat) (a_told_need : Nat) (a_S : Nat) (a_S_cells : Nat) (a_laws : Nat) (told_gloves : Int32) (told_matters : Int32) (told_pride : Int32) (told_coins : Int32) (told_free : Nat → Int32) (told_stuffed : Nat → Int32) (o_S_cells : Nat → Int32)    (n : Nat) : ∀ (S_cells : Nat → Int32) (v1 : Int32) (H : Heap) (locs : List Loc) (ls : Array Slot), f_X9_begin_23 told_pride told_coins told_free told_stuffed  n S_cells v1 = some o_S_cells → Wo D A s [(oX5 a_told (.int told_gloves) (.int told_matters) (.int told_pride) (.int told_coins) (.ref a_told_house) (.ref a_told_free) (.ref a_told_stuffed) (.ref a_told_after) (.ref a_told_weight) (.ref a_told_need)), (a_told_free, .inl (cI, 6, .inl told_free)), (a_told_stuffed, .inl (cI, 6, .inl told_stuffed)), (oX9 a_S (.ref a_S_cells) (.ref a_told) (.ref a_laws)), (a_S_cells, .inl (cI, 69, .inl S_cells))] H locs → lv_has ls 2 [(0, .ref a_S), (1, .int v1)] → W p l e rm_X9_begin s m args below meth c H locs 0 0 (MQ below (QcV D A [(oX5 a_told (.int told_gloves) (.int told_matters) (.int told_pride) (.int told_coins) (.ref a_told_house) (.ref a_told_free) (.ref a_told_stuffed) (.ref a_told_after) (.ref a_told_weight) (.ref a_told_need)), (a_told_free, .inl (cI, 6, .inl told_free)), (a_told_stuffed, .inl (cI, 6, .inl told_stuffed)), (oX9 a_S (.ref a_S_cells) (.ref a_told) (.ref a_laws)), (a_S_cells, .inl (cI, 69, .inl o_S_cells))]) args s 0 0 A) (F0 m 23 ls []) := by
  induction n with
  | zero =>
    intro S_cells v1 H locs ls hf
    have h9 : (none : Option ((Nat → Int32))) = some o_S_cells := hf
    cases h9
  | succ n ih =>
    intro S_cells v1 H locs ls hf hw hl
    exact q_X9_begin_23 C K a_told a_told_house a_told_free a_told_stuffed a_told_after a_told_weight a_told_need a_S a_S_cells a_laws told_gloves told_matters told_pride told_coins told_free told_stuffed o_S_cells  (f_X9_begin_23 told_pride told_coins told_free told_stuffed  n) ih S_cells v1 hf hw hl
set_option maxHeartbeats 4000000 in
set_option maxRecDepth 100000 in
theorem q_X9_begin_2 {p : Program} {l : Launch} {e : Env} {s : State} {m : MethodId} {args : Array Value} {below : List Frame} {meth : Method} {c : Code} {sx : List sx_T} {D : va_G} {cI cZ cO : ClassId} {A : Nat → Prop} (C : Cx p s m args meth c RX9 wsX9_begin cX9_begin 2 none) (K : Kx sx D (tyL cI cZ cO) A s) (a_told : Nat) (a_told_house : Nat) (a_told_free : Nat) (a_told_stuffed : Nat) (a_told_after : Nat) (a_told_weight : Nat) (a_told_need : Nat) (a_S : Nat) (a_S_cells : Nat) (a_laws : Nat) (told_gloves : Int32) (told_matters : Int32) (told_pride : Int32) (told_coins : Int32) (told_free : Nat → Int32) (told_stuffed : Nat → Int32) (o_S_cells : Nat → Int32)   (k2 : (Nat → Int32) → Int32 → Option ((Nat → Int32))) (hk2 : ∀ (S_cells : Nat → Int32) (v1 : Int32) (H : Heap) (locs : List Loc) (ls : Array Slot), k2 S_cells v1 = some o_S_cells → Wo D A s [(oX5 a_told (.int told_gloves) (.int told_matters) (.int told_pride) (.int told_coins) (.ref a_told_house) (.ref a_told_free) (.ref a_told_stuffed) (.ref a_told_after) (.ref a_told_weight) (.ref a_told_need)), (a_told_free, .inl (cI, 6, .inl told_free)), (a_told_stuffed, .inl (cI, 6, .inl told_stuffed)), (oX9 a_S (.ref a_S_cells) (.ref a_told) (.ref a_laws)), (a_S_cells, .inl (cI, 69, .inl S_cells))] H locs → lv_has ls 2 [(0, .ref a_S), (1, .int v1)] → W p l e rm_X9_begin s m args below meth c H locs 0 0 (MQ below (QcV D A [(oX5 a_told (.int told_gloves) (.int told_matters) (.int told_pride) (.int told_coins) (.ref a_told_house) (.ref a_told_free) (.ref a_told_stuffed) (.ref a_told_after) (.ref a_told_weight) (.ref a_told_need)), (a_told_free, .inl (cI, 6, .inl told_free)), (a_told_stuffed, .inl (cI, 6, .inl told_stuffed)), (oX9 a_S (.ref a_S_cells) (.ref a_told) (.ref a_laws)), (a_S_cells, .inl (cI, 69, .inl o_S_cells))]) args s 0 0 A) (F0 m 2 ls [])) (S_cells : Nat → Int32) (v1 : Int32) {H : Heap} {locs : List Loc} {ls : Array Slot} (hf : b_X9_begin_2 told_pride told_coins told_free told_stuffed k2 S_cells v1 = some o_S_cells) (hw : Wo D A s [(oX5 a_told (.int told_gloves) (.int told_matters) (.int told_pride) (.int told_coins) (.ref a_told_house) (.ref a_told_free) (.ref a_told_stuffed) (.ref a_told_after) (.ref a_told_weight) (.ref a_told_need)), (a_told_free, .inl (cI, 6, .inl told_free)), (a_told_stuffed, .inl (cI, 6, .inl told_stuffed)), (oX9 a_S (.ref a_S_cells) (.ref a_told) (.ref a_laws)), (a_S_cells, .inl (cI, 69, .inl S_cells))] H locs) (hl : lv_has ls 2 [(0, .ref a_S), (1, .int v1)]) : W p l e rm_X9_begin s m args below meth c H locs 0 0 (MQ below (QcV D A [(oX5 a_told (.int told_gloves) (.int told_matters) (.int told_pride) (.int told_coins) (.ref a_told_house) (.ref a_told_free) (.ref a_told_stuffed) (.ref a_told_after) (.ref a_told_weight) (.ref a_told_need)), (a_told_free, .inl (cI, 6, .inl told_free)), (a_told_stuffed, .inl (cI, 6, .inl told_stuffed)), (oX9 a_S (.ref a_S_cells) (.ref a_told) (.ref a_laws)), (a_S_cells, .inl (cI, 69, .inl o_S_cells))]) args s 0 0 A) (F0 m 2 ls []) := by
  obtain ⟨hx, hb, hml, hown, hts, hr, hlk⟩ := id C
  obtain ⟨hK, hX, hA⟩ := id K
  unfold b_X9_begin_2 at hf
  refine lv_iload_n hx hb dX9_begin_2 rfl (lv_at hl 1 rfl) ?_
  refine lv_bipush (v := (36 : Int32)) hx hb dX9_begin_3 (by decide) ?_
  refine lv_icmp_ge (tgt := 21) hx hb dX9_begin_5 (by decide) (fun hc => ?_) (fun hc => ?_)
  · have hf := (if_pos hc).symm.trans hf
    refine lv_iconst (v := (0 : Int32)) hx hb dX9_begin_21 (by decide) ?_
    refine lv_istore_n (lv' := [(1, .int (0 : Int32)), (0, .ref a_S)]) hx hb dX9_begin_22 rfl hl (by decide) rfl (fun ls hl => ?_)
    exact qf_X9_begin_23 C K a_told a_told_house a_told_free a_told_stuffed a_told_after a_told_weight a_told_need a_S a_S_cells a_laws told_gloves told_matters told_pride told_coins told_free told_stuffed o_S_cells  fu S_cells (0 : Int32) _ _ _ hf hw (lv_sub hl [1, 0] rfl)
  · have hf := (if_neg hc).symm.trans hf
    refine lv_aload_n hx hb dX9_begin_8 rfl (lv_at hl 0 rfl) ?_
    refine va_get (ci := 9) (v := .ref a_S_cells) (C := RX9) (T := TX9) (N := 3) hx hb hts in_X9_begin_X9 hown hK hw.1 3 rfl rfl 0 (by decide) (hts _ lk_X9_begin_0) (fun _ h9 => h9) rfl dX9_begin_9 ?_
    refine lv_iload_n hx hb dX9_begin_12 rfl (lv_at hl 1 rfl) ?_
    refine lv_iconst (v := (0 : Int32)) hx hb dX9_begin_13 (by decide) ?_
    obtain ⟨hc_1, hf⟩ := gd_some hf
    obtain ⟨S_cells_2, e_S_cells_2, hf⟩ := bnd_some hf
    refine va_iast hx hb hK hw.1 hw.2.1 hw.2.2 4 0 rfl rfl (inB_in hc_1) dX9_begin_14 (fun H locs hP hD hS => ?_)
    have hw : Wo D A s [(oX5 a_told (.int told_gloves) (.int told_matters) (.int told_pride) (.int told_coins) (.ref a_told_house) (.ref a_told_free) (.ref a_told_stuffed) (.ref a_told_after) (.ref a_told_weight) (.ref a_told_need)), (a_told_free, .inl (cI, 6, .inl told_free)), (a_told_stuffed, .inl (cI, 6, .inl told_stuffed)), (oX9 a_S (.ref a_S_cells) (.ref a_told) (.ref a_laws)), (a_S_cells, .inl (cI, 69, .inl S_cells_2))] H locs := by rw [e_S_cells_2]; exact ⟨hP, hD, hS⟩
    obtain ⟨v1_3, e_v1_3, hf⟩ := bnd_some hf
    refine lv_iinc (v := v1_3) (lv' := [(1, .int v1_3), (0, .ref a_S)]) hx hb dX9_begin_15 hl (k := 1) rfl (by rw [e_v1_3]; rfl) (by decide) rfl (fun ls hl => ?_)
    refine lv_goto (tgt := 2) hx hb dX9_begin_18 (by decide) ?_
    exact hk2 S_cells_2 v1_3 _ _ _ hf hw (lv_sub hl [1, 0] rfl)
theorem qf_X9_begin_2 {p : Program} {l : Launch} {e : Env} {s : State} {m : MethodId} {args : Array Value} {below : List Frame} {meth : Method} {c : Code} {sx : List sx_T} {D : va_G} {cI cZ cO : ClassId} {A : Nat → Prop} (C : Cx p s m args meth c RX9 wsX9_begin cX9_begin 2 none) (K : Kx sx D (tyL cI cZ cO) A s) (a_told : Nat) (a_told_house : Nat) (a_told_free : Nat) (a_told_stuffed : Nat) (a_told_after : Nat) (a_told_weight : Nat) (a_told_need : Nat) (a_S : Nat) (a_S_cells : Nat) (a_laws : Nat) (told_gloves : Int32) (told_matters : Int32) (told_pride : Int32) (told_coins : Int32) (told_free : Nat → Int32) (told_stuffed : Nat → Int32) (o_S_cells : Nat → Int32)    (n : Nat) : ∀ (S_cells : Nat → Int32) (v1 : Int32) (H : Heap) (locs : List Loc) (ls : Array Slot), f_X9_begin_2 told_pride told_coins told_free told_stuffed  n S_cells v1 = some o_S_cells → Wo D A s [(oX5 a_told (.int told_gloves) (.int told_matters) (.int told_pride) (.int told_coins) (.ref a_told_house) (.ref a_told_free) (.ref a_told_stuffed) (.ref a_told_after) (.ref a_told_weight) (.ref a_told_need)), (a_told_free, .inl (cI, 6, .inl told_free)), (a_told_stuffed, .inl (cI, 6, .inl told_stuffed)), (oX9 a_S (.ref a_S_cells) (.ref a_told) (.ref a_laws)), (a_S_cells, .inl (cI, 69, .inl S_cells))] H locs → lv_has ls 2 [(0, .ref a_S), (1, .int v1)] → W p l e rm_X9_begin s m args below meth c H locs 0 0 (MQ below (QcV D A [(oX5 a_told (.int told_gloves) (.int told_matters) (.int told_pride) (.int told_coins) (.ref a_told_house) (.ref a_told_free) (.ref a_told_stuffed) (.ref a_told_after) (.ref a_told_weight) (.ref a_told_need)), (a_told_free, .inl (cI, 6, .inl told_free)), (a_told_stuffed, .inl (cI, 6, .inl told_stuffed)), (oX9 a_S (.ref a_S_cells) (.ref a_told) (.ref a_laws)), (a_S_cells, .inl (cI, 69, .inl o_S_cells))]) args s 0 0 A) (F0 m 2 ls []) := by
  induction n with
  | zero =>
    intro S_cells v1 H locs ls hf
    have h9 : (none : Option ((Nat → Int32))) = some o_S_cells := hf
    cases h9
  | succ n ih =>
    intro S_cells v1 H locs ls hf hw hl
    exact q_X9_begin_2 C K a_told a_told_house a_told_free a_told_stuffed a_told_after a_told_weight a_told_need a_S a_S_cells a_laws told_gloves told_matters told_pride told_coins told_free told_stuffed o_S_cells  (f_X9_begin_2 told_pride told_coins told_free told_stuffed  n) ih S_cells v1 hf hw hl
set_option maxHeartbeats 4000000 in
set_option maxRecDepth 100000 in
theorem q_X9_begin_0 {p : Program} {l : Launch} {e : Env} {s : State} {m : MethodId} {args : Array Value} {below : List Frame} {meth : Method} {c : Code} {sx : List sx_T} {D : va_G} {cI cZ cO : ClassId} {A : Nat → Prop} (C : Cx p s m args meth c RX9 wsX9_begin cX9_begin 2 none) (K : Kx sx D (tyL cI cZ cO) A s) (a_told : Nat) (a_told_house : Nat) (a_told_free : Nat) (a_told_stuffed : Nat) (a_told_after : Nat) (a_told_weight : Nat) (a_told_need : Nat) (a_S : Nat) (a_S_cells : Nat) (a_laws : Nat) (told_gloves : Int32) (told_matters : Int32) (told_pride : Int32) (told_coins : Int32) (told_free : Nat → Int32) (told_stuffed : Nat → Int32) (o_S_cells : Nat → Int32)    (S_cells : Nat → Int32) {H : Heap} {locs : List Loc} {ls : Array Slot} (hf : b_X9_begin_0 told_pride told_coins told_free told_stuffed  S_cells = some o_S_cells) (hw : Wo D A s [(oX5 a_told (.int told_gloves) (.int told_matters) (.int told_pride) (.int told_coins) (.ref a_told_house) (.ref a_told_free) (.ref a_told_stuffed) (.ref a_told_after) (.ref a_told_weight) (.ref a_told_need)), (a_told_free, .inl (cI, 6, .inl told_free)), (a_told_stuffed, .inl (cI, 6, .inl told_stuffed)), (oX9 a_S (.ref a_S_cells) (.ref a_told) (.ref a_laws)), (a_S_cells, .inl (cI, 69, .inl S_cells))] H locs) (hl : lv_has ls 2 [(0, .ref a_S)]) : W p l e rm_X9_begin s m args below meth c H locs 0 0 (MQ below (QcV D A [(oX5 a_told (.int told_gloves) (.int told_matters) (.int told_pride) (.int told_coins) (.ref a_told_house) (.ref a_told_free) (.ref a_told_stuffed) (.ref a_told_after) (.ref a_told_weight) (.ref a_told_need)), (a_told_free, .inl (cI, 6, .inl told_free)), (a_told_stuffed, .inl (cI, 6, .inl told_stuffed)), (oX9 a_S (.ref a_S_cells) (.ref a_told) (.ref a_laws)), (a_S_cells, .inl (cI, 69, .inl o_S_cells))]) args s 0 0 A) (F0 m 0 ls []) := by
  obtain ⟨hx, hb, hml, hown, hts, hr, hlk⟩ := id C
  obtain ⟨hK, hX, hA⟩ := id K
  unfold b_X9_begin_0 at hf
  refine lv_iconst (v := (0 : Int32)) hx hb dX9_begin_0 (by decide) ?_
  refine lv_istore_n (lv' := [(1, .int (0 : Int32)), (0, .ref a_S)]) hx hb dX9_begin_1 rfl hl (by decide) rfl (fun ls hl => ?_)
  exact qf_X9_begin_2 C K a_told a_told_house a_told_free a_told_stuffed a_told_after a_told_weight a_told_need a_S a_S_cells a_laws told_gloves told_matters told_pride told_coins told_free told_stuffed o_S_cells  fu S_cells (0 : Int32) _ _ _ hf hw (lv_sub hl [1, 0] rfl)
set_option maxHeartbeats 4000000 in
set_option maxRecDepth 100000 in
theorem k_X9_begin {l : Launch} {sx : List sx_T} {D : va_G} {cI cZ cO : ClassId} (a_told : Nat) (a_told_house : Nat) (a_told_free : Nat) (a_told_stuffed : Nat) (a_told_after : Nat) (a_told_weight : Nat) (a_told_need : Nat) (a_S : Nat) (a_S_cells : Nat) (a_laws : Nat) (told_gloves : Int32) (told_matters : Int32) (told_pride : Int32) (told_coins : Int32) (told_free : Nat → Int32) (told_stuffed : Nat → Int32) (o_S_cells : Nat → Int32) (S_cells : Nat → Int32) (hF : f_X9_begin told_pride told_coins told_free told_stuffed S_cells = some o_S_cells) : CtV l yX9_begin wsX9_begin rm_X9_begin sx D (tyL cI cZ cO) [.ref a_S] [(oX5 a_told (.int told_gloves) (.int told_matters) (.int told_pride) (.int told_coins) (.ref a_told_house) (.ref a_told_free) (.ref a_told_stuffed) (.ref a_told_after) (.ref a_told_weight) (.ref a_told_need)), (a_told_free, .inl (cI, 6, .inl told_free)), (a_told_stuffed, .inl (cI, 6, .inl told_stuffed)), (oX9 a_S (.ref a_S_cells) (.ref a_told) (.ref a_laws)), (a_S_cells, .inl (cI, 69, .inl S_cells))] [(oX5 a_told (.int told_gloves) (.int told_matters) (.int told_pride) (.int told_coins) (.ref a_told_house) (.ref a_told_free) (.ref a_told_stuffed) (.ref a_told_after) (.ref a_told_weight) (.ref a_told_need)), (a_told_free, .inl (cI, 6, .inl told_free)), (a_told_stuffed, .inl (cI, 6, .inl told_stuffed)), (oX9 a_S (.ref a_S_cells) (.ref a_told) (.ref a_laws)), (a_S_cells, .inl (cI, 69, .inl o_S_cells))] := by
  refine ctV_of (cc := cX9_begin) (ret := none) (maxL := 2) (by decide) rfl (Nat.le_of_ble_eq_true rfl) ?_
  intro p e s m below meth c A ls C K hw hl
  exact q_X9_begin_0 C K a_told a_told_house a_told_free a_told_stuffed a_told_after a_told_weight a_told_need a_S a_S_cells a_laws told_gloves told_matters told_pride told_coins told_free told_stuffed o_S_cells S_cells hF hw (lv_sub hl [0] rfl)
abbrev rm_X9_pride : Room := { frames := 0, cells := 0, slots := 0, locals := 0 }
theorem in_X9_pride_X9 : ∀ w ∈ u_ws RX9 TX9 3, w ∈ wsX9_pride := fun w h => List.mem_cons_of_mem _ (bi_wsX90 w h)
theorem lk_X9_pride_0 : Cond.fieldLink RX9 11 "GloveHouses$State" "cells" "[I" ∈ wsX9_pride := List.mem_cons_of_mem _ (bi_wsL_law0_r5 _ (List.mem_of_getElem? (i := 11) rfl))
set_option maxHeartbeats 4000000 in
set_option maxRecDepth 100000 in
theorem q_X9_pride_0 {p : Program} {l : Launch} {e : Env} {s : State} {m : MethodId} {args : Array Value} {below : List Frame} {meth : Method} {c : Code} {sx : List sx_T} {D : va_G} {cI cZ cO : ClassId} {A : Nat → Prop} (C : Cx p s m args meth c RX9 wsX9_pride cX9_pride 1 (some .int)) (K : Kx sx D (tyL cI cZ cO) A s) (a_S : Nat) (a_S_cells : Nat) (a_told : Nat) (a_laws : Nat) (S_cells : Nat → Int32) (r0 : Int32)     {H : Heap} {locs : List Loc} {ls : Array Slot} (hf : b_X9_pride_0 S_cells   = some r0) (hw : Wo D A s [(oX9 a_S (.ref a_S_cells) (.ref a_told) (.ref a_laws)), (a_S_cells, .inl (cI, 69, .inl S_cells))] H locs) (hl : lv_has ls 1 [(0, .ref a_S)]) : W p l e rm_X9_pride s m args below meth c H locs 0 0 (MQ below (QcI D A r0 [(oX9 a_S (.ref a_S_cells) (.ref a_told) (.ref a_laws)), (a_S_cells, .inl (cI, 69, .inl S_cells))]) args s 0 0 A) (F0 m 0 ls []) := by
  obtain ⟨hx, hb, hml, hown, hts, hr, hlk⟩ := id C
  obtain ⟨hK, hX, hA⟩ := id K
  unfold b_X9_pride_0 at hf
  refine lv_aload_n hx hb dX9_pride_0 rfl (lv_at hl 0 rfl) ?_
  refine va_get (ci := 9) (v := .ref a_S_cells) (C := RX9) (T := TX9) (N := 3) hx hb hts in_X9_pride_X9 hown hK hw.1 0 rfl rfl 0 (by decide) (hts _ lk_X9_pride_0) (fun _ h9 => h9) rfl dX9_pride_1 ?_
  refine lv_bipush (v := (66 : Int32)) hx hb dX9_pride_4 (by decide) ?_
  obtain ⟨hc_1, hf⟩ := gd_some hf
  refine va_iald hx hb hK hw.1 1 0 rfl rfl (inB_in hc_1) dX9_pride_6 ?_
  cases hf
  exact retI C hw dX9_pride_7 rfl
set_option maxHeartbeats 4000000 in
set_option maxRecDepth 100000 in
theorem k_X9_pride {l : Launch} {sx : List sx_T} {D : va_G} {cI cZ cO : ClassId} (a_S : Nat) (a_S_cells : Nat) (a_told : Nat) (a_laws : Nat) (S_cells : Nat → Int32) (r0 : Int32) (hF : f_X9_pride S_cells = some r0) : CtI l yX9_pride wsX9_pride rm_X9_pride sx D (tyL cI cZ cO) [.ref a_S] [(oX9 a_S (.ref a_S_cells) (.ref a_told) (.ref a_laws)), (a_S_cells, .inl (cI, 69, .inl S_cells))] r0 [(oX9 a_S (.ref a_S_cells) (.ref a_told) (.ref a_laws)), (a_S_cells, .inl (cI, 69, .inl S_cells))] := by
  refine ctI_of (cc := cX9_pride) (ret := (some .int)) (maxL := 1) (by decide) rfl (Nat.le_of_ble_eq_true rfl) ?_
  intro p e s m below meth c A ls C K hw hl
  exact q_X9_pride_0 C K a_S a_S_cells a_told a_laws S_cells r0  hF hw (lv_sub hl [0] rfl)
abbrev rm_X9_coins : Room := { frames := 0, cells := 0, slots := 0, locals := 0 }
theorem in_X9_coins_X9 : ∀ w ∈ u_ws RX9 TX9 3, w ∈ wsX9_coins := fun w h => List.mem_cons_of_mem _ (bi_wsX90 w h)
theorem lk_X9_coins_0 : Cond.fieldLink RX9 11 "GloveHouses$State" "cells" "[I" ∈ wsX9_coins := List.mem_cons_of_mem _ (bi_wsL_law0_r5 _ (List.mem_of_getElem? (i := 11) rfl))
set_option maxHeartbeats 4000000 in
set_option maxRecDepth 100000 in
theorem q_X9_coins_0 {p : Program} {l : Launch} {e : Env} {s : State} {m : MethodId} {args : Array Value} {below : List Frame} {meth : Method} {c : Code} {sx : List sx_T} {D : va_G} {cI cZ cO : ClassId} {A : Nat → Prop} (C : Cx p s m args meth c RX9 wsX9_coins cX9_coins 1 (some .int)) (K : Kx sx D (tyL cI cZ cO) A s) (a_S : Nat) (a_S_cells : Nat) (a_told : Nat) (a_laws : Nat) (S_cells : Nat → Int32) (r0 : Int32)     {H : Heap} {locs : List Loc} {ls : Array Slot} (hf : b_X9_coins_0 S_cells   = some r0) (hw : Wo D A s [(oX9 a_S (.ref a_S_cells) (.ref a_told) (.ref a_laws)), (a_S_cells, .inl (cI, 69, .inl S_cells))] H locs) (hl : lv_has ls 1 [(0, .ref a_S)]) : W p l e rm_X9_coins s m args below meth c H locs 0 0 (MQ below (QcI D A r0 [(oX9 a_S (.ref a_S_cells) (.ref a_told) (.ref a_laws)), (a_S_cells, .inl (cI, 69, .inl S_cells))]) args s 0 0 A) (F0 m 0 ls []) := by
  obtain ⟨hx, hb, hml, hown, hts, hr, hlk⟩ := id C
  obtain ⟨hK, hX, hA⟩ := id K
  unfold b_X9_coins_0 at hf
  refine lv_aload_n hx hb dX9_coins_0 rfl (lv_at hl 0 rfl) ?_
  refine va_get (ci := 9) (v := .ref a_S_cells) (C := RX9) (T := TX9) (N := 3) hx hb hts in_X9_coins_X9 hown hK hw.1 0 rfl rfl 0 (by decide) (hts _ lk_X9_coins_0) (fun _ h9 => h9) rfl dX9_coins_1 ?_
  refine lv_bipush (v := (67 : Int32)) hx hb dX9_coins_4 (by decide) ?_
  obtain ⟨hc_1, hf⟩ := gd_some hf
  refine va_iald hx hb hK hw.1 1 0 rfl rfl (inB_in hc_1) dX9_coins_6 ?_
  cases hf
  exact retI C hw dX9_coins_7 rfl
set_option maxHeartbeats 4000000 in
set_option maxRecDepth 100000 in
theorem k_X9_coins {l : Launch} {sx : List sx_T} {D : va_G} {cI cZ cO : ClassId} (a_S : Nat) (a_S_cells : Nat) (a_told : Nat) (a_laws : Nat) (S_cells : Nat → Int32) (r0 : Int32) (hF : f_X9_coins S_cells = some r0) : CtI l yX9_coins wsX9_coins rm_X9_coins sx D (tyL cI cZ cO) [.ref a_S] [(oX9 a_S (.ref a_S_cells) (.ref a_told) (.ref a_laws)), (a_S_cells, .inl (cI, 69, .inl S_cells))] r0 [(oX9 a_S (.ref a_S_cells) (.ref a_told) (.ref a_laws)), (a_S_cells, .inl (cI, 69, .inl S_cells))] := by
  refine ctI_of (cc := cX9_coins) (ret := (some .int)) (maxL := 1) (by decide) rfl (Nat.le_of_ble_eq_true rfl) ?_
  intro p e s m below meth c A ls C K hw hl
  exact q_X9_coins_0 C K a_S a_S_cells a_told a_laws S_cells r0  hF hw (lv_sub hl [0] rfl)
abbrev rm_X9_free : Room := { frames := 0, cells := 0, slots := 0, locals := 0 }
theorem in_X9_free_X9 : ∀ w ∈ u_ws RX9 TX9 3, w ∈ wsX9_free := fun w h => List.mem_cons_of_mem _ (bi_wsX90 w h)
theorem lk_X9_free_0 : Cond.fieldLink RX9 11 "GloveHouses$State" "cells" "[I" ∈ wsX9_free := List.mem_cons_of_mem _ (bi_wsL_law0_r5 _ (List.mem_of_getElem? (i := 11) rfl))
set_option maxHeartbeats 4000000 in
set_option maxRecDepth 100000 in
theorem q_X9_free_0 {p : Program} {l : Launch} {e : Env} {s : State} {m : MethodId} {args : Array Value} {below : List Frame} {meth : Method} {c : Code} {sx : List sx_T} {D : va_G} {cI cZ cO : ClassId} {A : Nat → Prop} (C : Cx p s m args meth c RX9 wsX9_free cX9_free 2 (some .int)) (K : Kx sx D (tyL cI cZ cO) A s) (a_S : Nat) (a_S_cells : Nat) (a_told : Nat) (a_laws : Nat) (S_cells : Nat → Int32) (r0 : Int32)    (v1 : Int32) {H : Heap} {locs : List Loc} {ls : Array Slot} (hf : b_X9_free_0 S_cells  v1 = some r0) (hw : Wo D A s [(oX9 a_S (.ref a_S_cells) (.ref a_told) (.ref a_laws)), (a_S_cells, .inl (cI, 69, .inl S_cells))] H locs) (hl : lv_has ls 2 [(0, .ref a_S), (1, .int v1)]) : W p l e rm_X9_free s m args below meth c H locs 0 0 (MQ below (QcI D A r0 [(oX9 a_S (.ref a_S_cells) (.ref a_told) (.ref a_laws)), (a_S_cells, .inl (cI, 69, .inl S_cells))]) args s 0 0 A) (F0 m 0 ls []) := by
  obtain ⟨hx, hb, hml, hown, hts, hr, hlk⟩ := id C
  obtain ⟨hK, hX, hA⟩ := id K
  unfold b_X9_free_0 at hf
  refine lv_aload_n hx hb dX9_free_0 rfl (lv_at hl 0 rfl) ?_
  refine va_get (ci := 9) (v := .ref a_S_cells) (C := RX9) (T := TX9) (N := 3) hx hb hts in_X9_free_X9 hown hK hw.1 0 rfl rfl 0 (by decide) (hts _ lk_X9_free_0) (fun _ h9 => h9) rfl dX9_free_1 ?_
  refine lv_bipush (v := (36 : Int32)) hx hb dX9_free_4 (by decide) ?_
  refine lv_iload_n hx hb dX9_free_6 rfl (lv_at hl 1 rfl) ?_
  refine lv_iadd hx hb dX9_free_7 ?_
  obtain ⟨hc_1, hf⟩ := gd_some hf
  refine va_iald hx hb hK hw.1 1 0 rfl rfl (inB_in hc_1) dX9_free_8 ?_
  cases hf
  exact retI C hw dX9_free_9 rfl
set_option maxHeartbeats 4000000 in
set_option maxRecDepth 100000 in
theorem k_X9_free {l : Launch} {sx : List sx_T} {D : va_G} {cI cZ cO : ClassId} (a_S : Nat) (a_S_cells : Nat) (a_told : Nat) (a_laws : Nat) (S_cells : Nat → Int32) (r0 : Int32) (p1 : Int32) (hF : f_X9_free S_cells p1 = some r0) : CtI l yX9_free wsX9_free rm_X9_free sx D (tyL cI cZ cO) [.ref a_S, .int p1] [(oX9 a_S (.ref a_S_cells) (.ref a_told) (.ref a_laws)), (a_S_cells, .inl (cI, 69, .inl S_cells))] r0 [(oX9 a_S (.ref a_S_cells) (.ref a_told) (.ref a_laws)), (a_S_cells, .inl (cI, 69, .inl S_cells))] := by
  refine ctI_of (cc := cX9_free) (ret := (some .int)) (maxL := 2) (by decide) rfl (Nat.le_of_ble_eq_true rfl) ?_
  intro p e s m below meth c A ls C K hw hl
  exact q_X9_free_0 C K a_S a_S_cells a_told a_laws S_cells r0 p1 hF hw (lv_sub hl [0, 1] rfl)
abbrev rm_X9_stuffed : Room := { frames := 0, cells := 0, slots := 0, locals := 0 }
theorem in_X9_stuffed_X9 : ∀ w ∈ u_ws RX9 TX9 3, w ∈ wsX9_stuffed := fun w h => List.mem_cons_of_mem _ (bi_wsX90 w h)
theorem lk_X9_stuffed_0 : Cond.fieldLink RX9 11 "GloveHouses$State" "cells" "[I" ∈ wsX9_stuffed := List.mem_cons_of_mem _ (bi_wsL_law0_r5 _ (List.mem_of_getElem? (i := 11) rfl))
set_option maxHeartbeats 4000000 in
set_option maxRecDepth 100000 in
theorem q_X9_stuffed_0 {p : Program} {l : Launch} {e : Env} {s : State} {m : MethodId} {args : Array Value} {below : List Frame} {meth : Method} {c : Code} {sx : List sx_T} {D : va_G} {cI cZ cO : ClassId} {A : Nat → Prop} (C : Cx p s m args meth c RX9 wsX9_stuffed cX9_stuffed 2 (some .int)) (K : Kx sx D (tyL cI cZ cO) A s) (a_S : Nat) (a_S_cells : Nat) (a_told : Nat) (a_laws : Nat) (S_cells : Nat → Int32) (r0 : Int32)    (v1 : Int32) {H : Heap} {locs : List Loc} {ls : Array Slot} (hf : b_X9_stuffed_0 S_cells  v1 = some r0) (hw : Wo D A s [(oX9 a_S (.ref a_S_cells) (.ref a_told) (.ref a_laws)), (a_S_cells, .inl (cI, 69, .inl S_cells))] H locs) (hl : lv_has ls 2 [(0, .ref a_S), (1, .int v1)]) : W p l e rm_X9_stuffed s m args below meth c H locs 0 0 (MQ below (QcI D A r0 [(oX9 a_S (.ref a_S_cells) (.ref a_told) (.ref a_laws)), (a_S_cells, .inl (cI, 69, .inl S_cells))]) args s 0 0 A) (F0 m 0 ls []) := by
  obtain ⟨hx, hb, hml, hown, hts, hr, hlk⟩ := id C
  obtain ⟨hK, hX, hA⟩ := id K
  unfold b_X9_stuffed_0 at hf
  refine lv_aload_n hx hb dX9_stuffed_0 rfl (lv_at hl 0 rfl) ?_
  refine va_get (ci := 9) (v := .ref a_S_cells) (C := RX9) (T := TX9) (N := 3) hx hb hts in_X9_stuffed_X9 hown hK hw.1 0 rfl rfl 0 (by decide) (hts _ lk_X9_stuffed_0) (fun _ h9 => h9) rfl dX9_stuffed_1 ?_
  refine lv_bipush (v := (42 : Int32)) hx hb dX9_stuffed_4 (by decide) ?_
  refine lv_iload_n hx hb dX9_stuffed_6 rfl (lv_at hl 1 rfl) ?_
  refine lv_iadd hx hb dX9_stuffed_7 ?_
  obtain ⟨hc_1, hf⟩ := gd_some hf
  refine va_iald hx hb hK hw.1 1 0 rfl rfl (inB_in hc_1) dX9_stuffed_8 ?_
  cases hf
  exact retI C hw dX9_stuffed_9 rfl
set_option maxHeartbeats 4000000 in
set_option maxRecDepth 100000 in
theorem k_X9_stuffed {l : Launch} {sx : List sx_T} {D : va_G} {cI cZ cO : ClassId} (a_S : Nat) (a_S_cells : Nat) (a_told : Nat) (a_laws : Nat) (S_cells : Nat → Int32) (r0 : Int32) (p1 : Int32) (hF : f_X9_stuffed S_cells p1 = some r0) : CtI l yX9_stuffed wsX9_stuffed rm_X9_stuffed sx D (tyL cI cZ cO) [.ref a_S, .int p1] [(oX9 a_S (.ref a_S_cells) (.ref a_told) (.ref a_laws)), (a_S_cells, .inl (cI, 69, .inl S_cells))] r0 [(oX9 a_S (.ref a_S_cells) (.ref a_told) (.ref a_laws)), (a_S_cells, .inl (cI, 69, .inl S_cells))] := by
  refine ctI_of (cc := cX9_stuffed) (ret := (some .int)) (maxL := 2) (by decide) rfl (Nat.le_of_ble_eq_true rfl) ?_
  intro p e s m below meth c A ls C K hw hl
  exact q_X9_stuffed_0 C K a_S a_S_cells a_told a_laws S_cells r0 p1 hF hw (lv_sub hl [0, 1] rfl)
abbrev rm_X9_hasMet : Room := { frames := 0, cells := 0, slots := 0, locals := 0 }
theorem in_X9_hasMet_X9 : ∀ w ∈ u_ws RX9 TX9 3, w ∈ wsX9_hasMet := fun w h => List.mem_cons_of_mem _ (bi_wsX90 w h)
theorem lk_X9_hasMet_0 : Cond.fieldLink RX9 11 "GloveHouses$State" "cells" "[I" ∈ wsX9_hasMet := List.mem_cons_of_mem _ (bi_wsL_law0_r5 _ (List.mem_of_getElem? (i := 11) rfl))
set_option maxHeartbeats 4000000 in
set_option maxRecDepth 100000 in
theorem q_X9_hasMet_0 {p : Program} {l : Launch} {e : Env} {s : State} {m : MethodId} {args : Array Value} {below : List Frame} {meth : Method} {c : Code} {sx : List sx_T} {D : va_G} {cI cZ cO : ClassId} {A : Nat → Prop} (C : Cx p s m args meth c RX9 wsX9_hasMet cX9_hasMet 2 (some .boolean)) (K : Kx sx D (tyL cI cZ cO) A s) (a_S : Nat) (a_S_cells : Nat) (a_told : Nat) (a_laws : Nat) (S_cells : Nat → Int32) (r0 : Int32)    (v1 : Int32) {H : Heap} {locs : List Loc} {ls : Array Slot} (hf : b_X9_hasMet_0 S_cells  v1 = some r0) (hw : Wo D A s [(oX9 a_S (.ref a_S_cells) (.ref a_told) (.ref a_laws)), (a_S_cells, .inl (cI, 69, .inl S_cells))] H locs) (hl : lv_has ls 2 [(0, .ref a_S), (1, .int v1)]) : W p l e rm_X9_hasMet s m args below meth c H locs 0 0 (MQ below (QcI D A r0 [(oX9 a_S (.ref a_S_cells) (.ref a_told) (.ref a_laws)), (a_S_cells, .inl (cI, 69, .inl S_cells))]) args s 0 0 A) (F0 m 0 ls []) := by
  obtain ⟨hx, hb, hml, hown, hts, hr, hlk⟩ := id C
  obtain ⟨hK, hX, hA⟩ := id K
  unfold b_X9_hasMet_0 at hf
  refine lv_aload_n hx hb dX9_hasMet_0 rfl (lv_at hl 0 rfl) ?_
  refine va_get (ci := 9) (v := .ref a_S_cells) (C := RX9) (T := TX9) (N := 3) hx hb hts in_X9_hasMet_X9 hown hK hw.1 0 rfl rfl 0 (by decide) (hts _ lk_X9_hasMet_0) (fun _ h9 => h9) rfl dX9_hasMet_1 ?_
  refine lv_bipush (v := (54 : Int32)) hx hb dX9_hasMet_4 (by decide) ?_
  refine lv_iload_n hx hb dX9_hasMet_6 rfl (lv_at hl 1 rfl) ?_
  refine lv_iadd hx hb dX9_hasMet_7 ?_
  obtain ⟨hc_1, hf⟩ := gd_some hf
  refine va_iald hx hb hK hw.1 1 0 rfl rfl (inB_in hc_1) dX9_hasMet_8 ?_
  refine lv_iconst (v := (-1 : Int32)) hx hb dX9_hasMet_9 (by decide) ?_
  refine lv_icmp_eq (tgt := 17) hx hb dX9_hasMet_10 (by decide) (fun hc => ?_) (fun hc => ?_)
  · have hf := (if_pos hc).symm.trans hf
    refine lv_iconst (v := (0 : Int32)) hx hb dX9_hasMet_17 (by decide) ?_
    cases hf
    exact retZ C hw dX9_hasMet_18 (by decide) rfl
  · have hf := (if_neg hc).symm.trans hf
    refine lv_iconst (v := (1 : Int32)) hx hb dX9_hasMet_13 (by decide) ?_
    refine lv_goto (tgt := 18) hx hb dX9_hasMet_14 (by decide) ?_
    cases hf
    exact retZ C hw dX9_hasMet_18 (by decide) rfl
set_option maxHeartbeats 4000000 in
set_option maxRecDepth 100000 in
theorem k_X9_hasMet {l : Launch} {sx : List sx_T} {D : va_G} {cI cZ cO : ClassId} (a_S : Nat) (a_S_cells : Nat) (a_told : Nat) (a_laws : Nat) (S_cells : Nat → Int32) (r0 : Int32) (p1 : Int32) (hF : f_X9_hasMet S_cells p1 = some r0) : CtI l yX9_hasMet wsX9_hasMet rm_X9_hasMet sx D (tyL cI cZ cO) [.ref a_S, .int p1] [(oX9 a_S (.ref a_S_cells) (.ref a_told) (.ref a_laws)), (a_S_cells, .inl (cI, 69, .inl S_cells))] r0 [(oX9 a_S (.ref a_S_cells) (.ref a_told) (.ref a_laws)), (a_S_cells, .inl (cI, 69, .inl S_cells))] := by
  refine ctI_of (cc := cX9_hasMet) (ret := (some .boolean)) (maxL := 2) (by decide) rfl (Nat.le_of_ble_eq_true rfl) ?_
  intro p e s m below meth c A ls C K hw hl
  exact q_X9_hasMet_0 C K a_S a_S_cells a_told a_laws S_cells r0 p1 hF hw (lv_sub hl [0, 1] rfl)
abbrev rm_X9_knows : Room := { frames := 0, cells := 0, slots := 0, locals := 0 }
theorem in_X9_knows_X9 : ∀ w ∈ u_ws RX9 TX9 3, w ∈ wsX9_knows := fun w h => List.mem_cons_of_mem _ (bi_wsX90 w h)
theorem lk_X9_knows_0 : Cond.fieldLink RX9 11 "GloveHouses$State" "cells" "[I" ∈ wsX9_knows := List.mem_cons_of_mem _ (bi_wsL_law0_r5 _ (List.mem_of_getElem? (i := 11) rfl))
set_option maxHeartbeats 4000000 in
set_option maxRecDepth 100000 in
theorem q_X9_knows_0 {p : Program} {l : Launch} {e : Env} {s : State} {m : MethodId} {args : Array Value} {below : List Frame} {meth : Method} {c : Code} {sx : List sx_T} {D : va_G} {cI cZ cO : ClassId} {A : Nat → Prop} (C : Cx p s m args meth c RX9 wsX9_knows cX9_knows 2 (some .int)) (K : Kx sx D (tyL cI cZ cO) A s) (a_S : Nat) (a_S_cells : Nat) (a_told : Nat) (a_laws : Nat) (S_cells : Nat → Int32) (r0 : Int32)    (v1 : Int32) {H : Heap} {locs : List Loc} {ls : Array Slot} (hf : b_X9_knows_0 S_cells  v1 = some r0) (hw : Wo D A s [(oX9 a_S (.ref a_S_cells) (.ref a_told) (.ref a_laws)), (a_S_cells, .inl (cI, 69, .inl S_cells))] H locs) (hl : lv_has ls 2 [(0, .ref a_S), (1, .int v1)]) : W p l e rm_X9_knows s m args below meth c H locs 0 0 (MQ below (QcI D A r0 [(oX9 a_S (.ref a_S_cells) (.ref a_told) (.ref a_laws)), (a_S_cells, .inl (cI, 69, .inl S_cells))]) args s 0 0 A) (F0 m 0 ls []) := by
  obtain ⟨hx, hb, hml, hown, hts, hr, hlk⟩ := id C
  obtain ⟨hK, hX, hA⟩ := id K
  unfold b_X9_knows_0 at hf
  refine lv_aload_n hx hb dX9_knows_0 rfl (lv_at hl 0 rfl) ?_
  refine va_get (ci := 9) (v := .ref a_S_cells) (C := RX9) (T := TX9) (N := 3) hx hb hts in_X9_knows_X9 hown hK hw.1 0 rfl rfl 0 (by decide) (hts _ lk_X9_knows_0) (fun _ h9 => h9) rfl dX9_knows_1 ?_
  refine lv_bipush (v := (48 : Int32)) hx hb dX9_knows_4 (by decide) ?_
  refine lv_iload_n hx hb dX9_knows_6 rfl (lv_at hl 1 rfl) ?_
  refine lv_iadd hx hb dX9_knows_7 ?_
  obtain ⟨hc_1, hf⟩ := gd_some hf
  refine va_iald hx hb hK hw.1 1 0 rfl rfl (inB_in hc_1) dX9_knows_8 ?_
  cases hf
  exact retI C hw dX9_knows_9 rfl
set_option maxHeartbeats 4000000 in
set_option maxRecDepth 100000 in
theorem k_X9_knows {l : Launch} {sx : List sx_T} {D : va_G} {cI cZ cO : ClassId} (a_S : Nat) (a_S_cells : Nat) (a_told : Nat) (a_laws : Nat) (S_cells : Nat → Int32) (r0 : Int32) (p1 : Int32) (hF : f_X9_knows S_cells p1 = some r0) : CtI l yX9_knows wsX9_knows rm_X9_knows sx D (tyL cI cZ cO) [.ref a_S, .int p1] [(oX9 a_S (.ref a_S_cells) (.ref a_told) (.ref a_laws)), (a_S_cells, .inl (cI, 69, .inl S_cells))] r0 [(oX9 a_S (.ref a_S_cells) (.ref a_told) (.ref a_laws)), (a_S_cells, .inl (cI, 69, .inl S_cells))] := by
  refine ctI_of (cc := cX9_knows) (ret := (some .int)) (maxL := 2) (by decide) rfl (Nat.le_of_ble_eq_true rfl) ?_
  intro p e s m below meth c A ls C K hw hl
  exact q_X9_knows_0 C K a_S a_S_cells a_told a_laws S_cells r0 p1 hF hw (lv_sub hl [0, 1] rfl)
abbrev rm_X9_signers : Room := { frames := 0, cells := 0, slots := 0, locals := 0 }
theorem in_X9_signers_X9 : ∀ w ∈ u_ws RX9 TX9 3, w ∈ wsX9_signers := fun w h => List.mem_cons_of_mem _ (bi_wsX90 w h)
theorem lk_X9_signers_0 : Cond.fieldLink RX9 11 "GloveHouses$State" "cells" "[I" ∈ wsX9_signers := List.mem_cons_of_mem _ (bi_wsL_law0_r5 _ (List.mem_of_getElem? (i := 11) rfl))
set_option maxHeartbeats 4000000 in
set_option maxRecDepth 100000 in
theorem q_X9_signers_0 {p : Program} {l : Launch} {e : Env} {s : State} {m : MethodId} {args : Array Value} {below : List Frame} {meth : Method} {c : Code} {sx : List sx_T} {D : va_G} {cI cZ cO : ClassId} {A : Nat → Prop} (C : Cx p s m args meth c RX9 wsX9_signers cX9_signers 2 (some .int)) (K : Kx sx D (tyL cI cZ cO) A s) (a_S : Nat) (a_S_cells : Nat) (a_told : Nat) (a_laws : Nat) (S_cells : Nat → Int32) (r0 : Int32)    (v1 : Int32) {H : Heap} {locs : List Loc} {ls : Array Slot} (hf : b_X9_signers_0 S_cells  v1 = some r0) (hw : Wo D A s [(oX9 a_S (.ref a_S_cells) (.ref a_told) (.ref a_laws)), (a_S_cells, .inl (cI, 69, .inl S_cells))] H locs) (hl : lv_has ls 2 [(0, .ref a_S), (1, .int v1)]) : W p l e rm_X9_signers s m args below meth c H locs 0 0 (MQ below (QcI D A r0 [(oX9 a_S (.ref a_S_cells) (.ref a_told) (.ref a_laws)), (a_S_cells, .inl (cI, 69, .inl S_cells))]) args s 0 0 A) (F0 m 0 ls []) := by
  obtain ⟨hx, hb, hml, hown, hts, hr, hlk⟩ := id C
  obtain ⟨hK, hX, hA⟩ := id K
  unfold b_X9_signers_0 at hf
  refine lv_aload_n hx hb dX9_signers_0 rfl (lv_at hl 0 rfl) ?_
  refine va_get (ci := 9) (v := .ref a_S_cells) (C := RX9) (T := TX9) (N := 3) hx hb hts in_X9_signers_X9 hown hK hw.1 0 rfl rfl 0 (by decide) (hts _ lk_X9_signers_0) (fun _ h9 => h9) rfl dX9_signers_1 ?_
  refine lv_bipush (v := (60 : Int32)) hx hb dX9_signers_4 (by decide) ?_
  refine lv_iload_n hx hb dX9_signers_6 rfl (lv_at hl 1 rfl) ?_
  refine lv_iadd hx hb dX9_signers_7 ?_
  obtain ⟨hc_1, hf⟩ := gd_some hf
  refine va_iald hx hb hK hw.1 1 0 rfl rfl (inB_in hc_1) dX9_signers_8 ?_
  cases hf
  exact retI C hw dX9_signers_9 rfl
set_option maxHeartbeats 4000000 in
set_option maxRecDepth 100000 in
theorem k_X9_signers {l : Launch} {sx : List sx_T} {D : va_G} {cI cZ cO : ClassId} (a_S : Nat) (a_S_cells : Nat) (a_told : Nat) (a_laws : Nat) (S_cells : Nat → Int32) (r0 : Int32) (p1 : Int32) (hF : f_X9_signers S_cells p1 = some r0) : CtI l yX9_signers wsX9_signers rm_X9_signers sx D (tyL cI cZ cO) [.ref a_S, .int p1] [(oX9 a_S (.ref a_S_cells) (.ref a_told) (.ref a_laws)), (a_S_cells, .inl (cI, 69, .inl S_cells))] r0 [(oX9 a_S (.ref a_S_cells) (.ref a_told) (.ref a_laws)), (a_S_cells, .inl (cI, 69, .inl S_cells))] := by
  refine ctI_of (cc := cX9_signers) (ret := (some .int)) (maxL := 2) (by decide) rfl (Nat.le_of_ble_eq_true rfl) ?_
  intro p e s m below meth c A ls C K hw hl
  exact q_X9_signers_0 C K a_S a_S_cells a_told a_laws S_cells r0 p1 hF hw (lv_sub hl [0, 1] rfl)
abbrev rm_X9_placeOf : Room := { frames := 0, cells := 0, slots := 0, locals := 0 }
set_option maxHeartbeats 4000000 in
set_option maxRecDepth 100000 in
theorem q_X9_placeOf_0 {p : Program} {l : Launch} {e : Env} {s : State} {m : MethodId} {args : Array Value} {below : List Frame} {meth : Method} {c : Code} {sx : List sx_T} {D : va_G} {cI cZ cO : ClassId} {A : Nat → Prop} (C : Cx p s m args meth c RX9 wsX9_placeOf cX9_placeOf 2 (some .int)) (K : Kx sx D (tyL cI cZ cO) A s) (r0 : Int32)    (v0 : Int32) (v1 : Int32) {H : Heap} {locs : List Loc} {ls : Array Slot} (hf : b_X9_placeOf_0   v0 v1 = some r0) (hw : Wo D A s [] H locs) (hl : lv_has ls 2 [(0, .int v0), (1, .int v1)]) : W p l e rm_X9_placeOf s m args below meth c H locs 0 0 (MQ below (QcI D A r0 []) args s 0 0 A) (F0 m 0 ls []) := by
  obtain ⟨hx, hb, hml, hown, hts, hr, hlk⟩ := id C
  obtain ⟨hK, hX, hA⟩ := id K
  unfold b_X9_placeOf_0 at hf
  refine lv_iload_n hx hb dX9_placeOf_0 rfl (lv_at hl 0 rfl) ?_
  refine lv_iload_n hx hb dX9_placeOf_1 rfl (lv_at hl 1 rfl) ?_
  refine lv_icmp_ge (tgt := 14) hx hb dX9_placeOf_2 (by decide) (fun hc => ?_) (fun hc => ?_)
  · have hf := (if_pos hc).symm.trans hf
    refine lv_iload_n hx hb dX9_placeOf_14 rfl (lv_at hl 1 rfl) ?_
    refine lv_bipush (v := (6 : Int32)) hx hb dX9_placeOf_15 (by decide) ?_
    refine lv_imul hx hb dX9_placeOf_17 ?_
    refine lv_iload_n hx hb dX9_placeOf_18 rfl (lv_at hl 0 rfl) ?_
    refine lv_iadd hx hb dX9_placeOf_19 ?_
    cases hf
    exact retI C hw dX9_placeOf_20 rfl
  · have hf := (if_neg hc).symm.trans hf
    refine lv_iload_n hx hb dX9_placeOf_5 rfl (lv_at hl 0 rfl) ?_
    refine lv_bipush (v := (6 : Int32)) hx hb dX9_placeOf_6 (by decide) ?_
    refine lv_imul hx hb dX9_placeOf_8 ?_
    refine lv_iload_n hx hb dX9_placeOf_9 rfl (lv_at hl 1 rfl) ?_
    refine lv_iadd hx hb dX9_placeOf_10 ?_
    refine lv_goto (tgt := 20) hx hb dX9_placeOf_11 (by decide) ?_
    cases hf
    exact retI C hw dX9_placeOf_20 rfl
set_option maxHeartbeats 4000000 in
set_option maxRecDepth 100000 in
theorem k_X9_placeOf {l : Launch} {sx : List sx_T} {D : va_G} {cI cZ cO : ClassId} (r0 : Int32) (p1 : Int32) (p2 : Int32) (hF : f_X9_placeOf p1 p2 = some r0) : CtI l yX9_placeOf wsX9_placeOf rm_X9_placeOf sx D (tyL cI cZ cO) [.int p1, .int p2] [] r0 [] := by
  refine ctI_of (cc := cX9_placeOf) (ret := (some .int)) (maxL := 2) (by decide) rfl (Nat.le_of_ble_eq_true rfl) ?_
  intro p e s m below meth c A ls C K hw hl
  exact q_X9_placeOf_0 C K r0 p1 p2 hF hw (lv_sub hl [0, 1] rfl)
abbrev rm_X9_warmthOf : Room := { frames := 1, cells := 0, slots := 0, locals := 21 }
theorem in_X9_warmthOf_X9 : ∀ w ∈ u_ws RX9 TX9 3, w ∈ wsX9_warmthOf := fun w h => List.mem_cons_of_mem _ (bi_wsX90 w h)
theorem lk_X9_warmthOf_0 : Cond.fieldLink RX9 11 "GloveHouses$State" "cells" "[I" ∈ wsX9_warmthOf := List.mem_cons_of_mem _ (bi_wsL_law0_r5 _ (List.mem_of_getElem? (i := 11) rfl))
theorem lk_X9_warmthOf_1 : Cond.initialized RX9 ∈ wsX9_warmthOf := List.mem_cons_of_mem _ (bi_wsL_law0_r2 _ (List.mem_of_getElem? (i := 12) rfl))
theorem lk_X9_warmthOf_2 : Cond.methodLink RX9 50 yX9_placeOf ∈ wsX9_warmthOf := List.mem_cons_of_mem _ (bi_wsL_law0_r27 _ (List.mem_of_getElem? (i := 3) rfl))
theorem lk_X9_warmthOf_3 : Cond.static yX9_placeOf ∈ wsX9_warmthOf := List.mem_cons_of_mem _ (bi_wsL_law0_r27 _ (List.mem_of_getElem? (i := 4) rfl))
set_option maxHeartbeats 4000000 in
set_option maxRecDepth 100000 in
theorem q_X9_warmthOf_0 {p : Program} {l : Launch} {e : Env} {s : State} {m : MethodId} {args : Array Value} {below : List Frame} {meth : Method} {c : Code} {sx : List sx_T} {D : va_G} {cI cZ cO : ClassId} {A : Nat → Prop} (C : Cx p s m args meth c RX9 wsX9_warmthOf cX9_warmthOf 3 (some .int)) (K : Kx sx D (tyL cI cZ cO) A s) (a_S : Nat) (a_S_cells : Nat) (a_told : Nat) (a_laws : Nat) (S_cells : Nat → Int32) (r0 : Int32)    (v1 : Int32) (v2 : Int32) {H : Heap} {locs : List Loc} {ls : Array Slot} (hf : b_X9_warmthOf_0 S_cells  v1 v2 = some r0) (hw : Wo D A s [(oX9 a_S (.ref a_S_cells) (.ref a_told) (.ref a_laws)), (a_S_cells, .inl (cI, 69, .inl S_cells))] H locs) (hl : lv_has ls 3 [(0, .ref a_S), (1, .int v1), (2, .int v2)]) : W p l e rm_X9_warmthOf s m args below meth c H locs 0 0 (MQ below (QcI D A r0 [(oX9 a_S (.ref a_S_cells) (.ref a_told) (.ref a_laws)), (a_S_cells, .inl (cI, 69, .inl S_cells))]) args s 0 0 A) (F0 m 0 ls []) := by
  obtain ⟨hx, hb, hml, hown, hts, hr, hlk⟩ := id C
  obtain ⟨hK, hX, hA⟩ := id K
  unfold b_X9_warmthOf_0 at hf
  refine lv_aload_n hx hb dX9_warmthOf_0 rfl (lv_at hl 0 rfl) ?_
  refine va_get (ci := 9) (v := .ref a_S_cells) (C := RX9) (T := TX9) (N := 3) hx hb hts in_X9_warmthOf_X9 hown hK hw.1 0 rfl rfl 0 (by decide) (hts _ lk_X9_warmthOf_0) (fun _ h9 => h9) rfl dX9_warmthOf_1 ?_
  refine lv_iload_n hx hb dX9_warmthOf_4 rfl (lv_at hl 1 rfl) ?_
  refine lv_iload_n hx hb dX9_warmthOf_5 rfl (lv_at hl 2 rfl) ?_
  obtain ⟨r_1, hg_2, hf⟩ := ob1_some hf
  refine cl_SiA (As := [.int v1, .int v2]) (rest := [.ref a_S_cells]) C K hw (k_X9_placeOf r_1 v1 v2 hg_2) [] rfl (by decide) rfl rfl ⟨callB_of 2 hts (fun w h => gX9_warmthOf_X9_placeOf w (List.mem_append_right _ h)) rfl rfl rfl (hts _ lk_X9_warmthOf_1) (hts _ lk_X9_warmthOf_2) (by decide +kernel) ⟨Nat.le_of_ble_eq_true rfl, Nat.le_of_ble_eq_true rfl⟩, hts _ lk_X9_warmthOf_3⟩ rfl hl rfl (Nat.le_of_ble_eq_true rfl) dX9_warmthOf_6 ⟨Nat.zero_le _, Nat.zero_le _⟩ (fun H locs hw => ?_)
  have hw : Wo D A s [(oX9 a_S (.ref a_S_cells) (.ref a_told) (.ref a_laws)), (a_S_cells, .inl (cI, 69, .inl S_cells))] H locs := hw
  obtain ⟨hc_3, hf⟩ := gd_some hf
  refine va_iald hx hb hK hw.1 1 0 rfl rfl (inB_in hc_3) dX9_warmthOf_9 ?_
  cases hf
  exact retI C hw dX9_warmthOf_10 rfl
set_option maxHeartbeats 4000000 in
set_option maxRecDepth 100000 in
theorem k_X9_warmthOf {l : Launch} {sx : List sx_T} {D : va_G} {cI cZ cO : ClassId} (a_S : Nat) (a_S_cells : Nat) (a_told : Nat) (a_laws : Nat) (S_cells : Nat → Int32) (r0 : Int32) (p1 : Int32) (p2 : Int32) (hF : f_X9_warmthOf S_cells p1 p2 = some r0) : CtI l yX9_warmthOf wsX9_warmthOf rm_X9_warmthOf sx D (tyL cI cZ cO) [.ref a_S, .int p1, .int p2] [(oX9 a_S (.ref a_S_cells) (.ref a_told) (.ref a_laws)), (a_S_cells, .inl (cI, 69, .inl S_cells))] r0 [(oX9 a_S (.ref a_S_cells) (.ref a_told) (.ref a_laws)), (a_S_cells, .inl (cI, 69, .inl S_cells))] := by
  refine ctI_of (cc := cX9_warmthOf) (ret := (some .int)) (maxL := 3) (by decide) rfl (Nat.le_of_ble_eq_true rfl) ?_
  intro p e s m below meth c A ls C K hw hl
  exact q_X9_warmthOf_0 C K a_S a_S_cells a_told a_laws S_cells r0 p1 p2 hF hw (lv_sub hl [0, 1, 2] rfl)
abbrev rm_X9_pay : Room := { frames := 0, cells := 0, slots := 0, locals := 0 }
theorem in_X9_pay_X9 : ∀ w ∈ u_ws RX9 TX9 3, w ∈ wsX9_pay := fun w h => List.mem_cons_of_mem _ (bi_wsX90 w h)
theorem lk_X9_pay_0 : Cond.fieldLink RX9 11 "GloveHouses$State" "cells" "[I" ∈ wsX9_pay := List.mem_cons_of_mem _ (bi_wsL_law0_r5 _ (List.mem_of_getElem? (i := 11) rfl))
set_option maxHeartbeats 4000000 in
set_option maxRecDepth 100000 in
theorem q_X9_pay_0 {p : Program} {l : Launch} {e : Env} {s : State} {m : MethodId} {args : Array Value} {below : List Frame} {meth : Method} {c : Code} {sx : List sx_T} {D : va_G} {cI cZ cO : ClassId} {A : Nat → Prop} (C : Cx p s m args meth c RX9 wsX9_pay cX9_pay 2 none) (K : Kx sx D (tyL cI cZ cO) A s) (a_S : Nat) (a_S_cells : Nat) (a_told : Nat) (a_laws : Nat) (o_S_cells : Nat → Int32)    (S_cells : Nat → Int32) (v1 : Int32) {H : Heap} {locs : List Loc} {ls : Array Slot} (hf : b_X9_pay_0   S_cells v1 = some o_S_cells) (hw : Wo D A s [(oX9 a_S (.ref a_S_cells) (.ref a_told) (.ref a_laws)), (a_S_cells, .inl (cI, 69, .inl S_cells))] H locs) (hl : lv_has ls 2 [(0, .ref a_S), (1, .int v1)]) : W p l e rm_X9_pay s m args below meth c H locs 0 0 (MQ below (QcV D A [(oX9 a_S (.ref a_S_cells) (.ref a_told) (.ref a_laws)), (a_S_cells, .inl (cI, 69, .inl o_S_cells))]) args s 0 0 A) (F0 m 0 ls []) := by
  obtain ⟨hx, hb, hml, hown, hts, hr, hlk⟩ := id C
  obtain ⟨hK, hX, hA⟩ := id K
  unfold b_X9_pay_0 at hf
  refine lv_aload_n hx hb dX9_pay_0 rfl (lv_at hl 0 rfl) ?_
  refine va_get (ci := 9) (v := .ref a_S_cells) (C := RX9) (T := TX9) (N := 3) hx hb hts in_X9_pay_X9 hown hK hw.1 0 rfl rfl 0 (by decide) (hts _ lk_X9_pay_0) (fun _ h9 => h9) rfl dX9_pay_1 ?_
  refine lv_bipush (v := (67 : Int32)) hx hb dX9_pay_4 (by decide) ?_
  refine lv_dup2_11 hx hb dX9_pay_6 rfl rfl ?_
  obtain ⟨hc_1, hf⟩ := gd_some hf
  refine va_iald hx hb hK hw.1 1 0 rfl rfl (inB_in hc_1) dX9_pay_7 ?_
  refine lv_iload_n hx hb dX9_pay_8 rfl (lv_at hl 1 rfl) ?_
  refine lv_isub hx hb dX9_pay_9 ?_
  obtain ⟨hc_2, hf⟩ := gd_some hf
  obtain ⟨S_cells_3, e_S_cells_3, hf⟩ := bnd_some hf
  refine va_iast hx hb hK hw.1 hw.2.1 hw.2.2 1 0 rfl rfl (inB_in hc_2) dX9_pay_10 (fun H locs hP hD hS => ?_)
  have hw : Wo D A s [(oX9 a_S (.ref a_S_cells) (.ref a_told) (.ref a_laws)), (a_S_cells, .inl (cI, 69, .inl S_cells_3))] H locs := by rw [e_S_cells_3]; exact ⟨hP, hD, hS⟩
  cases hf
  exact retV C hw dX9_pay_11
set_option maxHeartbeats 4000000 in
set_option maxRecDepth 100000 in
theorem k_X9_pay {l : Launch} {sx : List sx_T} {D : va_G} {cI cZ cO : ClassId} (a_S : Nat) (a_S_cells : Nat) (a_told : Nat) (a_laws : Nat) (o_S_cells : Nat → Int32) (S_cells : Nat → Int32) (p1 : Int32) (hF : f_X9_pay S_cells p1 = some o_S_cells) : CtV l yX9_pay wsX9_pay rm_X9_pay sx D (tyL cI cZ cO) [.ref a_S, .int p1] [(oX9 a_S (.ref a_S_cells) (.ref a_told) (.ref a_laws)), (a_S_cells, .inl (cI, 69, .inl S_cells))] [(oX9 a_S (.ref a_S_cells) (.ref a_told) (.ref a_laws)), (a_S_cells, .inl (cI, 69, .inl o_S_cells))] := by
  refine ctV_of (cc := cX9_pay) (ret := none) (maxL := 2) (by decide) rfl (Nat.le_of_ble_eq_true rfl) ?_
  intro p e s m below meth c A ls C K hw hl
  exact q_X9_pay_0 C K a_S a_S_cells a_told a_laws o_S_cells S_cells p1 hF hw (lv_sub hl [0, 1] rfl)
abbrev rm_X9_day : Room := { frames := 0, cells := 0, slots := 0, locals := 0 }
theorem in_X9_day_X9 : ∀ w ∈ u_ws RX9 TX9 3, w ∈ wsX9_day := fun w h => List.mem_cons_of_mem _ (bi_wsX90 w h)
theorem lk_X9_day_0 : Cond.fieldLink RX9 11 "GloveHouses$State" "cells" "[I" ∈ wsX9_day := List.mem_cons_of_mem _ (bi_wsL_law0_r5 _ (List.mem_of_getElem? (i := 11) rfl))
set_option maxHeartbeats 4000000 in
set_option maxRecDepth 100000 in
theorem q_X9_day_0 {p : Program} {l : Launch} {e : Env} {s : State} {m : MethodId} {args : Array Value} {below : List Frame} {meth : Method} {c : Code} {sx : List sx_T} {D : va_G} {cI cZ cO : ClassId} {A : Nat → Prop} (C : Cx p s m args meth c RX9 wsX9_day cX9_day 1 (some .int)) (K : Kx sx D (tyL cI cZ cO) A s) (a_S : Nat) (a_S_cells : Nat) (a_told : Nat) (a_laws : Nat) (S_cells : Nat → Int32) (r0 : Int32)     {H : Heap} {locs : List Loc} {ls : Array Slot} (hf : b_X9_day_0 S_cells   = some r0) (hw : Wo D A s [(oX9 a_S (.ref a_S_cells) (.ref a_told) (.ref a_laws)), (a_S_cells, .inl (cI, 69, .inl S_cells))] H locs) (hl : lv_has ls 1 [(0, .ref a_S)]) : W p l e rm_X9_day s m args below meth c H locs 0 0 (MQ below (QcI D A r0 [(oX9 a_S (.ref a_S_cells) (.ref a_told) (.ref a_laws)), (a_S_cells, .inl (cI, 69, .inl S_cells))]) args s 0 0 A) (F0 m 0 ls []) := by
  obtain ⟨hx, hb, hml, hown, hts, hr, hlk⟩ := id C
  obtain ⟨hK, hX, hA⟩ := id K
  unfold b_X9_day_0 at hf
  refine lv_aload_n hx hb dX9_day_0 rfl (lv_at hl 0 rfl) ?_
  refine va_get (ci := 9) (v := .ref a_S_cells) (C := RX9) (T := TX9) (N := 3) hx hb hts in_X9_day_X9 hown hK hw.1 0 rfl rfl 0 (by decide) (hts _ lk_X9_day_0) (fun _ h9 => h9) rfl dX9_day_1 ?_
  refine lv_bipush (v := (68 : Int32)) hx hb dX9_day_4 (by decide) ?_
  obtain ⟨hc_1, hf⟩ := gd_some hf
  refine va_iald hx hb hK hw.1 1 0 rfl rfl (inB_in hc_1) dX9_day_6 ?_
  cases hf
  exact retI C hw dX9_day_7 rfl
set_option maxHeartbeats 4000000 in
set_option maxRecDepth 100000 in
theorem k_X9_day {l : Launch} {sx : List sx_T} {D : va_G} {cI cZ cO : ClassId} (a_S : Nat) (a_S_cells : Nat) (a_told : Nat) (a_laws : Nat) (S_cells : Nat → Int32) (r0 : Int32) (hF : f_X9_day S_cells = some r0) : CtI l yX9_day wsX9_day rm_X9_day sx D (tyL cI cZ cO) [.ref a_S] [(oX9 a_S (.ref a_S_cells) (.ref a_told) (.ref a_laws)), (a_S_cells, .inl (cI, 69, .inl S_cells))] r0 [(oX9 a_S (.ref a_S_cells) (.ref a_told) (.ref a_laws)), (a_S_cells, .inl (cI, 69, .inl S_cells))] := by
  refine ctI_of (cc := cX9_day) (ret := (some .int)) (maxL := 1) (by decide) rfl (Nat.le_of_ble_eq_true rfl) ?_
  intro p e s m below meth c A ls C K hw hl
  exact q_X9_day_0 C K a_S a_S_cells a_told a_laws S_cells r0  hF hw (lv_sub hl [0] rfl)
abbrev rm_X9_riseAt : Room := { frames := 3, cells := 0, slots := 0, locals := 78 }
theorem in_X9_riseAt_X9 : ∀ w ∈ u_ws RX9 TX9 3, w ∈ wsX9_riseAt := fun w h => List.mem_cons_of_mem _ (bi_wsX90 w h)
theorem lk_X9_riseAt_0 : Cond.fieldLink RX9 19 "GloveHouses$State" "laws" "LGloveHouses$Laws;" ∈ wsX9_riseAt := List.mem_cons_of_mem _ (bi_wsL_law0_r5 _ (List.mem_of_getElem? (i := 13) rfl))
theorem lk_X9_riseAt_1 : Cond.fieldLink RX9 15 "GloveHouses$State" "told" "LGloveHouses$Peace;" ∈ wsX9_riseAt := List.mem_cons_of_mem _ (bi_wsL_law0_r5 _ (List.mem_of_getElem? (i := 12) rfl))
set_option maxHeartbeats 4000000 in
set_option maxRecDepth 100000 in
theorem q_X9_riseAt_0 {p : Program} {l : Launch} {e : Env} {s : State} {m : MethodId} {args : Array Value} {below : List Frame} {meth : Method} {c : Code} {sx : List sx_T} {D : va_G} {cI cZ cO : ClassId} {A : Nat → Prop} (C : Cx p s m args meth c RX9 wsX9_riseAt cX9_riseAt 5 (some .int)) (K : Kx sx D (tyL cI cZ cO) A s) (a_told : Nat) (a_told_house : Nat) (a_told_free : Nat) (a_told_stuffed : Nat) (a_told_after : Nat) (a_told_weight : Nat) (a_told_need : Nat) (a_laws : Nat) (a_laws_codes : Nat) (a_laws_lengths : Nat) (a_laws_letters : Nat) (a_laws_stack : Nat) (a_S : Nat) (a_S_cells : Nat) (rw : Nat → Nat) (told_gloves : Int32) (told_matters : Int32) (told_pride : Int32) (told_coins : Int32) (told_after : Nat → Int32) (laws_size : Int32) (laws_holds : Int32) (laws_lengths : Nat → Int32) (laws_c0 : Nat → Int32) (laws_c1 : Nat → Int32) (laws_c2 : Nat → Int32) (laws_c3 : Nat → Int32) (S_cells : Nat → Int32) (r0 : Int32) (o_laws_letters : Nat → Int32) (o_laws_stack : Nat → Int32)    (laws_letters : Nat → Int32) (laws_stack : Nat → Int32) (v1 : Int32) (v2 : Int32) (v3 : Int32) (v4 : Int32) {H : Heap} {locs : List Loc} {ls : Array Slot} (hf : b_X9_riseAt_0 told_after laws_holds laws_lengths laws_c0 laws_c1 laws_c2 laws_c3 S_cells  laws_letters laws_stack v1 v2 v3 v4 = some (r0, o_laws_letters, o_laws_stack)) (hw : Wo D A s [(oX5 a_told (.int told_gloves) (.int told_matters) (.int told_pride) (.int told_coins) (.ref a_told_house) (.ref a_told_free) (.ref a_told_stuffed) (.ref a_told_after) (.ref a_told_weight) (.ref a_told_need)), (a_told_after, .inl (cI, 6, .inl told_after)), (oX2 a_laws (.int laws_size) (.int laws_holds) (.ref a_laws_codes) (.ref a_laws_lengths) (.ref a_laws_letters) (.ref a_laws_stack)), (a_laws_codes, .inl (cO, 4, .inr (.inr (.inr (.inr (rwF rw)))))), (a_laws_lengths, .inl (cI, 4, .inl laws_lengths)), (a_laws_letters, .inl (cI, 6, .inl laws_letters)), (a_laws_stack, .inl (cI, 241, .inl laws_stack)), ((rw 0), .inl (cI, 241, .inl laws_c0)), ((rw 1), .inl (cI, 241, .inl laws_c1)), ((rw 2), .inl (cI, 241, .inl laws_c2)), ((rw 3), .inl (cI, 241, .inl laws_c3)), (oX9 a_S (.ref a_S_cells) (.ref a_told) (.ref a_laws)), (a_S_cells, .inl (cI, 69, .inl S_cells))] H locs) (hl : lv_has ls 5 [(0, .ref a_S), (1, .int v1), (2, .int v2), (3, .int v3), (4, .int v4)]) : W p l e rm_X9_riseAt s m args below meth c H locs 0 0 (MQ below (QcI D A r0 [(oX5 a_told (.int told_gloves) (.int told_matters) (.int told_pride) (.int told_coins) (.ref a_told_house) (.ref a_told_free) (.ref a_told_stuffed) (.ref a_told_after) (.ref a_told_weight) (.ref a_told_need)), (a_told_after, .inl (cI, 6, .inl told_after)), (oX2 a_laws (.int laws_size) (.int laws_holds) (.ref a_laws_codes) (.ref a_laws_lengths) (.ref a_laws_letters) (.ref a_laws_stack)), (a_laws_codes, .inl (cO, 4, .inr (.inr (.inr (.inr (rwF rw)))))), (a_laws_lengths, .inl (cI, 4, .inl laws_lengths)), (a_laws_letters, .inl (cI, 6, .inl o_laws_letters)), (a_laws_stack, .inl (cI, 241, .inl o_laws_stack)), ((rw 0), .inl (cI, 241, .inl laws_c0)), ((rw 1), .inl (cI, 241, .inl laws_c1)), ((rw 2), .inl (cI, 241, .inl laws_c2)), ((rw 3), .inl (cI, 241, .inl laws_c3)), (oX9 a_S (.ref a_S_cells) (.ref a_told) (.ref a_laws)), (a_S_cells, .inl (cI, 69, .inl S_cells))]) args s 0 0 A) (F0 m 0 ls []) := by
  obtain ⟨hx, hb, hml, hown, hts, hr, hlk⟩ := id C
  obtain ⟨hK, hX, hA⟩ := id K
  unfold b_X9_riseAt_0 at hf
  refine lv_aload_n hx hb dX9_riseAt_0 rfl (lv_at hl 0 rfl) ?_
  refine va_get (ci := 9) (v := .ref a_laws) (C := RX9) (T := TX9) (N := 3) hx hb hts in_X9_riseAt_X9 hown hK hw.1 11 rfl rfl 2 (by decide) (hts _ lk_X9_riseAt_0) (fun _ h9 => h9) rfl dX9_riseAt_1 ?_
  refine lv_aload_n hx hb dX9_riseAt_4 rfl (lv_at hl 0 rfl) ?_
  refine lv_iload_n hx hb dX9_riseAt_5 rfl (lv_at hl 1 rfl) ?_
  obtain ⟨r_1, hg_2, hf⟩ := ob1_some hf
  refine cl_ViA (As := [.int v1]) (rest := [.ref a_laws]) C K hw (k_X9_free a_S a_S_cells a_told a_laws S_cells r_1 v1 hg_2) [11, 12] rfl (by decide) rfl rfl (ci := 9) (j := 11) rfl rfl (cwV 1 hts gX9_riseAt_X9_free rfl rfl rfl (by decide +kernel) ⟨Nat.le_of_ble_eq_true rfl, Nat.le_of_ble_eq_true rfl⟩) rfl hl rfl (Nat.le_of_ble_eq_true rfl) dX9_riseAt_6 ⟨Nat.zero_le _, Nat.zero_le _⟩ (fun H locs hw => ?_)
  have hw : Wo D A s [(oX5 a_told (.int told_gloves) (.int told_matters) (.int told_pride) (.int told_coins) (.ref a_told_house) (.ref a_told_free) (.ref a_told_stuffed) (.ref a_told_after) (.ref a_told_weight) (.ref a_told_need)), (a_told_after, .inl (cI, 6, .inl told_after)), (oX2 a_laws (.int laws_size) (.int laws_holds) (.ref a_laws_codes) (.ref a_laws_lengths) (.ref a_laws_letters) (.ref a_laws_stack)), (a_laws_codes, .inl (cO, 4, .inr (.inr (.inr (.inr (rwF rw)))))), (a_laws_lengths, .inl (cI, 4, .inl laws_lengths)), (a_laws_letters, .inl (cI, 6, .inl laws_letters)), (a_laws_stack, .inl (cI, 241, .inl laws_stack)), ((rw 0), .inl (cI, 241, .inl laws_c0)), ((rw 1), .inl (cI, 241, .inl laws_c1)), ((rw 2), .inl (cI, 241, .inl laws_c2)), ((rw 3), .inl (cI, 241, .inl laws_c3)), (oX9 a_S (.ref a_S_cells) (.ref a_told) (.ref a_laws)), (a_S_cells, .inl (cI, 69, .inl S_cells))] H locs := hw
  refine lv_aload_n hx hb dX9_riseAt_9 rfl (lv_at hl 0 rfl) ?_
  refine lv_iload_n hx hb dX9_riseAt_10 rfl (lv_at hl 2 rfl) ?_
  obtain ⟨r_3, hg_4, hf⟩ := ob1_some hf
  refine cl_ViA (As := [.int v2]) (rest := [.int r_1, .ref a_laws]) C K hw (k_X9_free a_S a_S_cells a_told a_laws S_cells r_3 v2 hg_4) [11, 12] rfl (by decide) rfl rfl (ci := 9) (j := 11) rfl rfl (cwV 1 hts gX9_riseAt_X9_free rfl rfl rfl (by decide +kernel) ⟨Nat.le_of_ble_eq_true rfl, Nat.le_of_ble_eq_true rfl⟩) rfl hl rfl (Nat.le_of_ble_eq_true rfl) dX9_riseAt_11 ⟨Nat.zero_le _, Nat.zero_le _⟩ (fun H locs hw => ?_)
  have hw : Wo D A s [(oX5 a_told (.int told_gloves) (.int told_matters) (.int told_pride) (.int told_coins) (.ref a_told_house) (.ref a_told_free) (.ref a_told_stuffed) (.ref a_told_after) (.ref a_told_weight) (.ref a_told_need)), (a_told_after, .inl (cI, 6, .inl told_after)), (oX2 a_laws (.int laws_size) (.int laws_holds) (.ref a_laws_codes) (.ref a_laws_lengths) (.ref a_laws_letters) (.ref a_laws_stack)), (a_laws_codes, .inl (cO, 4, .inr (.inr (.inr (.inr (rwF rw)))))), (a_laws_lengths, .inl (cI, 4, .inl laws_lengths)), (a_laws_letters, .inl (cI, 6, .inl laws_letters)), (a_laws_stack, .inl (cI, 241, .inl laws_stack)), ((rw 0), .inl (cI, 241, .inl laws_c0)), ((rw 1), .inl (cI, 241, .inl laws_c1)), ((rw 2), .inl (cI, 241, .inl laws_c2)), ((rw 3), .inl (cI, 241, .inl laws_c3)), (oX9 a_S (.ref a_S_cells) (.ref a_told) (.ref a_laws)), (a_S_cells, .inl (cI, 69, .inl S_cells))] H locs := hw
  refine lv_iadd hx hb dX9_riseAt_14 ?_
  refine lv_aload_n hx hb dX9_riseAt_15 rfl (lv_at hl 0 rfl) ?_
  refine lv_iload_n hx hb dX9_riseAt_16 rfl (lv_at hl 1 rfl) ?_
  obtain ⟨r_5, hg_6, hf⟩ := ob1_some hf
  refine cl_ViA (As := [.int v1]) (rest := [.int (r_1 + r_3), .ref a_laws]) C K hw (k_X9_stuffed a_S a_S_cells a_told a_laws S_cells r_5 v1 hg_6) [11, 12] rfl (by decide) rfl rfl (ci := 9) (j := 11) rfl rfl (cwV 1 hts gX9_riseAt_X9_stuffed rfl rfl rfl (by decide +kernel) ⟨Nat.le_of_ble_eq_true rfl, Nat.le_of_ble_eq_true rfl⟩) rfl hl rfl (Nat.le_of_ble_eq_true rfl) dX9_riseAt_17 ⟨Nat.zero_le _, Nat.zero_le _⟩ (fun H locs hw => ?_)
  have hw : Wo D A s [(oX5 a_told (.int told_gloves) (.int told_matters) (.int told_pride) (.int told_coins) (.ref a_told_house) (.ref a_told_free) (.ref a_told_stuffed) (.ref a_told_after) (.ref a_told_weight) (.ref a_told_need)), (a_told_after, .inl (cI, 6, .inl told_after)), (oX2 a_laws (.int laws_size) (.int laws_holds) (.ref a_laws_codes) (.ref a_laws_lengths) (.ref a_laws_letters) (.ref a_laws_stack)), (a_laws_codes, .inl (cO, 4, .inr (.inr (.inr (.inr (rwF rw)))))), (a_laws_lengths, .inl (cI, 4, .inl laws_lengths)), (a_laws_letters, .inl (cI, 6, .inl laws_letters)), (a_laws_stack, .inl (cI, 241, .inl laws_stack)), ((rw 0), .inl (cI, 241, .inl laws_c0)), ((rw 1), .inl (cI, 241, .inl laws_c1)), ((rw 2), .inl (cI, 241, .inl laws_c2)), ((rw 3), .inl (cI, 241, .inl laws_c3)), (oX9 a_S (.ref a_S_cells) (.ref a_told) (.ref a_laws)), (a_S_cells, .inl (cI, 69, .inl S_cells))] H locs := hw
  refine lv_aload_n hx hb dX9_riseAt_20 rfl (lv_at hl 0 rfl) ?_
  refine lv_iload_n hx hb dX9_riseAt_21 rfl (lv_at hl 2 rfl) ?_
  obtain ⟨r_7, hg_8, hf⟩ := ob1_some hf
  refine cl_ViA (As := [.int v2]) (rest := [.int r_5, .int (r_1 + r_3), .ref a_laws]) C K hw (k_X9_stuffed a_S a_S_cells a_told a_laws S_cells r_7 v2 hg_8) [11, 12] rfl (by decide) rfl rfl (ci := 9) (j := 11) rfl rfl (cwV 1 hts gX9_riseAt_X9_stuffed rfl rfl rfl (by decide +kernel) ⟨Nat.le_of_ble_eq_true rfl, Nat.le_of_ble_eq_true rfl⟩) rfl hl rfl (Nat.le_of_ble_eq_true rfl) dX9_riseAt_22 ⟨Nat.zero_le _, Nat.zero_le _⟩ (fun H locs hw => ?_)
  have hw : Wo D A s [(oX5 a_told (.int told_gloves) (.int told_matters) (.int told_pride) (.int told_coins) (.ref a_told_house) (.ref a_told_free) (.ref a_told_stuffed) (.ref a_told_after) (.ref a_told_weight) (.ref a_told_need)), (a_told_after, .inl (cI, 6, .inl told_after)), (oX2 a_laws (.int laws_size) (.int laws_holds) (.ref a_laws_codes) (.ref a_laws_lengths) (.ref a_laws_letters) (.ref a_laws_stack)), (a_laws_codes, .inl (cO, 4, .inr (.inr (.inr (.inr (rwF rw)))))), (a_laws_lengths, .inl (cI, 4, .inl laws_lengths)), (a_laws_letters, .inl (cI, 6, .inl laws_letters)), (a_laws_stack, .inl (cI, 241, .inl laws_stack)), ((rw 0), .inl (cI, 241, .inl laws_c0)), ((rw 1), .inl (cI, 241, .inl laws_c1)), ((rw 2), .inl (cI, 241, .inl laws_c2)), ((rw 3), .inl (cI, 241, .inl laws_c3)), (oX9 a_S (.ref a_S_cells) (.ref a_told) (.ref a_laws)), (a_S_cells, .inl (cI, 69, .inl S_cells))] H locs := hw
  refine lv_iadd hx hb dX9_riseAt_25 ?_
  refine lv_iload_n hx hb dX9_riseAt_26 rfl (lv_at hl 3 rfl) ?_
  refine lv_aload_n hx hb dX9_riseAt_27 rfl (lv_at hl 0 rfl) ?_
  refine va_get (ci := 9) (v := .ref a_told) (C := RX9) (T := TX9) (N := 3) hx hb hts in_X9_riseAt_X9 hown hK hw.1 11 rfl rfl 1 (by decide) (hts _ lk_X9_riseAt_1) (fun _ h9 => h9) rfl dX9_riseAt_28 ?_
  refine lv_iload_n hx hb dX9_riseAt_31 rfl (lv_at hl 1 rfl) ?_
  refine lv_iload_n hx hb dX9_riseAt_32 rfl (lv_at hl 2 rfl) ?_
  obtain ⟨r_9, hg_10, hf⟩ := ob1_some hf
  refine cl_ViA (As := [.int v1, .int v2]) (rest := [.int v3, .int (r_5 + r_7), .int (r_1 + r_3), .ref a_laws]) C K hw (k_X5_sameAim a_told a_told_house a_told_free a_told_stuffed a_told_after a_told_weight a_told_need told_gloves told_matters told_pride told_coins told_after r_9 v1 v2 hg_10) [0, 1] rfl (by decide) rfl rfl (ci := 5) (j := 0) rfl rfl (cwV 2 hts gX9_riseAt_X5_sameAim rfl rfl rfl (by decide +kernel) ⟨Nat.le_of_ble_eq_true rfl, Nat.le_of_ble_eq_true rfl⟩) rfl hl rfl (Nat.le_of_ble_eq_true rfl) dX9_riseAt_33 ⟨Nat.zero_le _, Nat.zero_le _⟩ (fun H locs hw => ?_)
  have hw : Wo D A s [(oX5 a_told (.int told_gloves) (.int told_matters) (.int told_pride) (.int told_coins) (.ref a_told_house) (.ref a_told_free) (.ref a_told_stuffed) (.ref a_told_after) (.ref a_told_weight) (.ref a_told_need)), (a_told_after, .inl (cI, 6, .inl told_after)), (oX2 a_laws (.int laws_size) (.int laws_holds) (.ref a_laws_codes) (.ref a_laws_lengths) (.ref a_laws_letters) (.ref a_laws_stack)), (a_laws_codes, .inl (cO, 4, .inr (.inr (.inr (.inr (rwF rw)))))), (a_laws_lengths, .inl (cI, 4, .inl laws_lengths)), (a_laws_letters, .inl (cI, 6, .inl laws_letters)), (a_laws_stack, .inl (cI, 241, .inl laws_stack)), ((rw 0), .inl (cI, 241, .inl laws_c0)), ((rw 1), .inl (cI, 241, .inl laws_c1)), ((rw 2), .inl (cI, 241, .inl laws_c2)), ((rw 3), .inl (cI, 241, .inl laws_c3)), (oX9 a_S (.ref a_S_cells) (.ref a_told) (.ref a_laws)), (a_S_cells, .inl (cI, 69, .inl S_cells))] H locs := hw
  refine lv_aload_n hx hb dX9_riseAt_36 rfl (lv_at hl 0 rfl) ?_
  obtain ⟨r_11, hg_12, hf⟩ := ob1_some hf
  refine cl_ViA (As := []) (rest := [.int r_9, .int v3, .int (r_5 + r_7), .int (r_1 + r_3), .ref a_laws]) C K hw (k_X9_pride a_S a_S_cells a_told a_laws S_cells r_11 hg_12) [11, 12] rfl (by decide) rfl rfl (ci := 9) (j := 11) rfl rfl (cwV 0 hts gX9_riseAt_X9_pride rfl rfl rfl (by decide +kernel) ⟨Nat.le_of_ble_eq_true rfl, Nat.le_of_ble_eq_true rfl⟩) rfl hl rfl (Nat.le_of_ble_eq_true rfl) dX9_riseAt_37 ⟨Nat.zero_le _, Nat.zero_le _⟩ (fun H locs hw => ?_)
  have hw : Wo D A s [(oX5 a_told (.int told_gloves) (.int told_matters) (.int told_pride) (.int told_coins) (.ref a_told_house) (.ref a_told_free) (.ref a_told_stuffed) (.ref a_told_after) (.ref a_told_weight) (.ref a_told_need)), (a_told_after, .inl (cI, 6, .inl told_after)), (oX2 a_laws (.int laws_size) (.int laws_holds) (.ref a_laws_codes) (.ref a_laws_lengths) (.ref a_laws_letters) (.ref a_laws_stack)), (a_laws_codes, .inl (cO, 4, .inr (.inr (.inr (.inr (rwF rw)))))), (a_laws_lengths, .inl (cI, 4, .inl laws_lengths)), (a_laws_letters, .inl (cI, 6, .inl laws_letters)), (a_laws_stack, .inl (cI, 241, .inl laws_stack)), ((rw 0), .inl (cI, 241, .inl laws_c0)), ((rw 1), .inl (cI, 241, .inl laws_c1)), ((rw 2), .inl (cI, 241, .inl laws_c2)), ((rw 3), .inl (cI, 241, .inl laws_c3)), (oX9 a_S (.ref a_S_cells) (.ref a_told) (.ref a_laws)), (a_S_cells, .inl (cI, 69, .inl S_cells))] H locs := hw
  refine lv_iload hx hb dX9_riseAt_40 (lv_at hl 4 rfl) ?_
  obtain ⟨r_13, laws_letters_14, laws_stack_15, hg_16, hf⟩ := ob3_some hf
  refine cl_ViA (As := [.int (r_1 + r_3), .int (r_5 + r_7), .int v3, .int r_9, .int r_11, .int v4]) (rest := []) C K hw (k_X2_riseBy a_laws a_laws_codes a_laws_lengths a_laws_letters a_laws_stack rw laws_size laws_holds laws_lengths laws_c0 laws_c1 laws_c2 laws_c3 r_13 laws_letters_14 laws_stack_15 laws_letters laws_stack (r_1 + r_3) (r_5 + r_7) v3 r_9 r_11 v4 hg_16) [2, 3, 4, 5, 6, 7, 8, 9, 10] rfl (by decide) rfl rfl (ci := 2) (j := 2) rfl rfl (cwV 6 hts gX9_riseAt_X2_riseBy rfl rfl rfl (by decide +kernel) ⟨Nat.le_of_ble_eq_true rfl, Nat.le_of_ble_eq_true rfl⟩) rfl hl rfl (Nat.le_of_ble_eq_true rfl) dX9_riseAt_42 ⟨Nat.zero_le _, Nat.zero_le _⟩ (fun H locs hw => ?_)
  have hw : Wo D A s [(oX5 a_told (.int told_gloves) (.int told_matters) (.int told_pride) (.int told_coins) (.ref a_told_house) (.ref a_told_free) (.ref a_told_stuffed) (.ref a_told_after) (.ref a_told_weight) (.ref a_told_need)), (a_told_after, .inl (cI, 6, .inl told_after)), (oX2 a_laws (.int laws_size) (.int laws_holds) (.ref a_laws_codes) (.ref a_laws_lengths) (.ref a_laws_letters) (.ref a_laws_stack)), (a_laws_codes, .inl (cO, 4, .inr (.inr (.inr (.inr (rwF rw)))))), (a_laws_lengths, .inl (cI, 4, .inl laws_lengths)), (a_laws_letters, .inl (cI, 6, .inl laws_letters_14)), (a_laws_stack, .inl (cI, 241, .inl laws_stack_15)), ((rw 0), .inl (cI, 241, .inl laws_c0)), ((rw 1), .inl (cI, 241, .inl laws_c1)), ((rw 2), .inl (cI, 241, .inl laws_c2)), ((rw 3), .inl (cI, 241, .inl laws_c3)), (oX9 a_S (.ref a_S_cells) (.ref a_told) (.ref a_laws)), (a_S_cells, .inl (cI, 69, .inl S_cells))] H locs := hw
  cases hf
  exact retI C hw dX9_riseAt_45 rfl
set_option maxHeartbeats 4000000 in
set_option maxRecDepth 100000 in
theorem k_X9_riseAt {l : Launch} {sx : List sx_T} {D : va_G} {cI cZ cO : ClassId} (a_told : Nat) (a_told_house : Nat) (a_told_free : Nat) (a_told_stuffed : Nat) (a_told_after : Nat) (a_told_weight : Nat) (a_told_need : Nat) (a_laws : Nat) (a_laws_codes : Nat) (a_laws_lengths : Nat) (a_laws_letters : Nat) (a_laws_stack : Nat) (a_S : Nat) (a_S_cells : Nat) (rw : Nat → Nat) (told_gloves : Int32) (told_matters : Int32) (told_pride : Int32) (told_coins : Int32) (told_after : Nat → Int32) (laws_size : Int32) (laws_holds : Int32) (laws_lengths : Nat → Int32) (laws_c0 : Nat → Int32) (laws_c1 : Nat → Int32) (laws_c2 : Nat → Int32) (laws_c3 : Nat → Int32) (S_cells : Nat → Int32) (r0 : Int32) (o_laws_letters : Nat → Int32) (o_laws_stack : Nat → Int32) (laws_letters : Nat → Int32) (laws_stack : Nat → Int32) (p1 : Int32) (p2 : Int32) (p3 : Int32) (p4 : Int32) (hF : f_X9_riseAt told_after laws_holds laws_lengths laws_c0 laws_c1 laws_c2 laws_c3 S_cells laws_letters laws_stack p1 p2 p3 p4 = some (r0, o_laws_letters, o_laws_stack)) : CtI l yX9_riseAt wsX9_riseAt rm_X9_riseAt sx D (tyL cI cZ cO) [.ref a_S, .int p1, .int p2, .int p3, .int p4] [(oX5 a_told (.int told_gloves) (.int told_matters) (.int told_pride) (.int told_coins) (.ref a_told_house) (.ref a_told_free) (.ref a_told_stuffed) (.ref a_told_after) (.ref a_told_weight) (.ref a_told_need)), (a_told_after, .inl (cI, 6, .inl told_after)), (oX2 a_laws (.int laws_size) (.int laws_holds) (.ref a_laws_codes) (.ref a_laws_lengths) (.ref a_laws_letters) (.ref a_laws_stack)), (a_laws_codes, .inl (cO, 4, .inr (.inr (.inr (.inr (rwF rw)))))), (a_laws_lengths, .inl (cI, 4, .inl laws_lengths)), (a_laws_letters, .inl (cI, 6, .inl laws_letters)), (a_laws_stack, .inl (cI, 241, .inl laws_stack)), ((rw 0), .inl (cI, 241, .inl laws_c0)), ((rw 1), .inl (cI, 241, .inl laws_c1)), ((rw 2), .inl (cI, 241, .inl laws_c2)), ((rw 3), .inl (cI, 241, .inl laws_c3)), (oX9 a_S (.ref a_S_cells) (.ref a_told) (.ref a_laws)), (a_S_cells, .inl (cI, 69, .inl S_cells))] r0 [(oX5 a_told (.int told_gloves) (.int told_matters) (.int told_pride) (.int told_coins) (.ref a_told_house) (.ref a_told_free) (.ref a_told_stuffed) (.ref a_told_after) (.ref a_told_weight) (.ref a_told_need)), (a_told_after, .inl (cI, 6, .inl told_after)), (oX2 a_laws (.int laws_size) (.int laws_holds) (.ref a_laws_codes) (.ref a_laws_lengths) (.ref a_laws_letters) (.ref a_laws_stack)), (a_laws_codes, .inl (cO, 4, .inr (.inr (.inr (.inr (rwF rw)))))), (a_laws_lengths, .inl (cI, 4, .inl laws_lengths)), (a_laws_letters, .inl (cI, 6, .inl o_laws_letters)), (a_laws_stack, .inl (cI, 241, .inl o_laws_stack)), ((rw 0), .inl (cI, 241, .inl laws_c0)), ((rw 1), .inl (cI, 241, .inl laws_c1)), ((rw 2), .inl (cI, 241, .inl laws_c2)), ((rw 3), .inl (cI, 241, .inl laws_c3)), (oX9 a_S (.ref a_S_cells) (.ref a_told) (.ref a_laws)), (a_S_cells, .inl (cI, 69, .inl S_cells))] := by
  refine ctI_of (cc := cX9_riseAt) (ret := (some .int)) (maxL := 5) (by decide) rfl (Nat.le_of_ble_eq_true rfl) ?_
  intro p e s m below meth c A ls C K hw hl
  exact q_X9_riseAt_0 C K a_told a_told_house a_told_free a_told_stuffed a_told_after a_told_weight a_told_need a_laws a_laws_codes a_laws_lengths a_laws_letters a_laws_stack a_S a_S_cells rw told_gloves told_matters told_pride told_coins told_after laws_size laws_holds laws_lengths laws_c0 laws_c1 laws_c2 laws_c3 S_cells r0 o_laws_letters o_laws_stack laws_letters laws_stack p1 p2 p3 p4 hF hw (lv_sub hl [0, 1, 2, 3, 4] rfl)
abbrev rm_X9_warmer : Room := { frames := 4, cells := 0, slots := 0, locals := 102 }
theorem lk_X9_warmer_0 : Cond.methodLink RX9 44 Lib.Math.min.name ∈ wsX9_warmer := List.mem_cons_of_mem _ (bi_wsL_law0_r29 _ (List.mem_of_getElem? (i := 14) rfl))
theorem lk_X9_warmer_1 : Cond.static Lib.Math.min.name ∈ wsX9_warmer := List.mem_cons_of_mem _ (bi_wsL_law0_r27 _ (List.mem_of_getElem? (i := 18) rfl))
theorem lk_X9_warmer_2 : Cond.initialized "java/lang/Math" ∈ wsX9_warmer := List.mem_cons_of_mem _ (bi_wsL_law0_r27 _ (List.mem_of_getElem? (i := 19) rfl))
theorem lk_X9_warmer_3 : Cond.code Lib.Math.min.name Lib.Math.min.code 2 (some .int) ∈ wsX9_warmer := List.mem_cons_of_mem _ (bi_wsL_law0_r27 _ (List.mem_of_getElem? (i := 20) rfl))
theorem lk_X9_warmer_4 : Cond.methodLink RX9 80 Lib.Math.max.name ∈ wsX9_warmer := List.mem_cons_of_mem _ (bi_wsL_law0_r29 _ (List.mem_of_getElem? (i := 15) rfl))
theorem lk_X9_warmer_5 : Cond.static Lib.Math.max.name ∈ wsX9_warmer := List.mem_cons_of_mem _ (bi_wsL_law0_r27 _ (List.mem_of_getElem? (i := 22) rfl))
theorem lk_X9_warmer_6 : Cond.code Lib.Math.max.name Lib.Math.max.code 2 (some .int) ∈ wsX9_warmer := List.mem_cons_of_mem _ (bi_wsL_law0_r27 _ (List.mem_of_getElem? (i := 23) rfl))
set_option maxHeartbeats 4000000 in
set_option maxRecDepth 100000 in
theorem q_X9_warmer_0 {p : Program} {l : Launch} {e : Env} {s : State} {m : MethodId} {args : Array Value} {below : List Frame} {meth : Method} {c : Code} {sx : List sx_T} {D : va_G} {cI cZ cO : ClassId} {A : Nat → Prop} (C : Cx p s m args meth c RX9 wsX9_warmer cX9_warmer 6 (some .int)) (K : Kx sx D (tyL cI cZ cO) A s) (a_told : Nat) (a_told_house : Nat) (a_told_free : Nat) (a_told_stuffed : Nat) (a_told_after : Nat) (a_told_weight : Nat) (a_told_need : Nat) (a_laws : Nat) (a_laws_codes : Nat) (a_laws_lengths : Nat) (a_laws_letters : Nat) (a_laws_stack : Nat) (a_S : Nat) (a_S_cells : Nat) (rw : Nat → Nat) (told_gloves : Int32) (told_matters : Int32) (told_pride : Int32) (told_coins : Int32) (told_after : Nat → Int32) (laws_size : Int32) (laws_holds : Int32) (laws_lengths : Nat → Int32) (laws_c0 : Nat → Int32) (laws_c1 : Nat → Int32) (laws_c2 : Nat → Int32) (laws_c3 : Nat → Int32) (S_cells : Nat → Int32) (r0 : Int32) (o_laws_letters : Nat → Int32) (o_laws_stack : Nat → Int32)    (laws_letters : Nat → Int32) (laws_stack : Nat → Int32) (v1 : Int32) (v2 : Int32) (v3 : Int32) (v4 : Int32) {H : Heap} {locs : List Loc} {ls : Array Slot} (hf : b_X9_warmer_0 told_after laws_holds laws_lengths laws_c0 laws_c1 laws_c2 laws_c3 S_cells  laws_letters laws_stack v1 v2 v3 v4 = some (r0, o_laws_letters, o_laws_stack)) (hw : Wo D A s [(oX5 a_told (.int told_gloves) (.int told_matters) (.int told_pride) (.int told_coins) (.ref a_told_house) (.ref a_told_free) (.ref a_told_stuffed) (.ref a_told_after) (.ref a_told_weight) (.ref a_told_need)), (a_told_after, .inl (cI, 6, .inl told_after)), (oX2 a_laws (.int laws_size) (.int laws_holds) (.ref a_laws_codes) (.ref a_laws_lengths) (.ref a_laws_letters) (.ref a_laws_stack)), (a_laws_codes, .inl (cO, 4, .inr (.inr (.inr (.inr (rwF rw)))))), (a_laws_lengths, .inl (cI, 4, .inl laws_lengths)), (a_laws_letters, .inl (cI, 6, .inl laws_letters)), (a_laws_stack, .inl (cI, 241, .inl laws_stack)), ((rw 0), .inl (cI, 241, .inl laws_c0)), ((rw 1), .inl (cI, 241, .inl laws_c1)), ((rw 2), .inl (cI, 241, .inl laws_c2)), ((rw 3), .inl (cI, 241, .inl laws_c3)), (oX9 a_S (.ref a_S_cells) (.ref a_told) (.ref a_laws)), (a_S_cells, .inl (cI, 69, .inl S_cells))] H locs) (hl : lv_has ls 6 [(0, .ref a_S), (1, .int v1), (2, .int v2), (3, .int v3), (4, .int v4)]) : W p l e rm_X9_warmer s m args below meth c H locs 0 0 (MQ below (QcI D A r0 [(oX5 a_told (.int told_gloves) (.int told_matters) (.int told_pride) (.int told_coins) (.ref a_told_house) (.ref a_told_free) (.ref a_told_stuffed) (.ref a_told_after) (.ref a_told_weight) (.ref a_told_need)), (a_told_after, .inl (cI, 6, .inl told_after)), (oX2 a_laws (.int laws_size) (.int laws_holds) (.ref a_laws_codes) (.ref a_laws_lengths) (.ref a_laws_letters) (.ref a_laws_stack)), (a_laws_codes, .inl (cO, 4, .inr (.inr (.inr (.inr (rwF rw)))))), (a_laws_lengths, .inl (cI, 4, .inl laws_lengths)), (a_laws_letters, .inl (cI, 6, .inl o_laws_letters)), (a_laws_stack, .inl (cI, 241, .inl o_laws_stack)), ((rw 0), .inl (cI, 241, .inl laws_c0)), ((rw 1), .inl (cI, 241, .inl laws_c1)), ((rw 2), .inl (cI, 241, .inl laws_c2)), ((rw 3), .inl (cI, 241, .inl laws_c3)), (oX9 a_S (.ref a_S_cells) (.ref a_told) (.ref a_laws)), (a_S_cells, .inl (cI, 69, .inl S_cells))]) args s 0 0 A) (F0 m 0 ls []) := by
  obtain ⟨hx, hb, hml, hown, hts, hr, hlk⟩ := id C
  obtain ⟨hK, hX, hA⟩ := id K
  unfold b_X9_warmer_0 at hf
  refine lv_aload_n hx hb dX9_warmer_0 rfl (lv_at hl 0 rfl) ?_
  refine lv_iload_n hx hb dX9_warmer_1 rfl (lv_at hl 1 rfl) ?_
  refine lv_iload_n hx hb dX9_warmer_2 rfl (lv_at hl 2 rfl) ?_
  refine lv_iload_n hx hb dX9_warmer_3 rfl (lv_at hl 3 rfl) ?_
  refine lv_sipush (v := (999 : Int32)) hx hb dX9_warmer_4 (by decide) ?_
  refine lv_aload_n hx hb dX9_warmer_7 rfl (lv_at hl 0 rfl) ?_
  obtain ⟨r_1, hg_2, hf⟩ := ob1_some hf
  refine cl_ViA (As := []) (rest := [.int (999 : Int32), .int v3, .int v2, .int v1, .ref a_S]) C K hw (k_X9_day a_S a_S_cells a_told a_laws S_cells r_1 hg_2) [11, 12] rfl (by decide) rfl rfl (ci := 9) (j := 11) rfl rfl (cwV 0 hts gX9_warmer_X9_day rfl rfl rfl (by decide +kernel) ⟨Nat.le_of_ble_eq_true rfl, Nat.le_of_ble_eq_true rfl⟩) rfl hl rfl (Nat.le_of_ble_eq_true rfl) dX9_warmer_8 ⟨Nat.zero_le _, Nat.zero_le _⟩ (fun H locs hw => ?_)
  have hw : Wo D A s [(oX5 a_told (.int told_gloves) (.int told_matters) (.int told_pride) (.int told_coins) (.ref a_told_house) (.ref a_told_free) (.ref a_told_stuffed) (.ref a_told_after) (.ref a_told_weight) (.ref a_told_need)), (a_told_after, .inl (cI, 6, .inl told_after)), (oX2 a_laws (.int laws_size) (.int laws_holds) (.ref a_laws_codes) (.ref a_laws_lengths) (.ref a_laws_letters) (.ref a_laws_stack)), (a_laws_codes, .inl (cO, 4, .inr (.inr (.inr (.inr (rwF rw)))))), (a_laws_lengths, .inl (cI, 4, .inl laws_lengths)), (a_laws_letters, .inl (cI, 6, .inl laws_letters)), (a_laws_stack, .inl (cI, 241, .inl laws_stack)), ((rw 0), .inl (cI, 241, .inl laws_c0)), ((rw 1), .inl (cI, 241, .inl laws_c1)), ((rw 2), .inl (cI, 241, .inl laws_c2)), ((rw 3), .inl (cI, 241, .inl laws_c3)), (oX9 a_S (.ref a_S_cells) (.ref a_told) (.ref a_laws)), (a_S_cells, .inl (cI, 69, .inl S_cells))] H locs := hw
  refine lv_iload hx hb dX9_warmer_11 (lv_at hl 4 rfl) ?_
  refine lv_iadd hx hb dX9_warmer_13 ?_
  refine va_mmin hx hb (hml.trans hl.1.symm) hown (hts _ lk_X9_warmer_0) (hts _ lk_X9_warmer_1) (hts _ lk_X9_warmer_2) (hts _ lk_X9_warmer_3) (Nat.le_of_ble_eq_true rfl) (Nat.le_of_ble_eq_true rfl) (Nat.zero_le _) (Nat.zero_le _) dX9_warmer_14 ?_
  obtain ⟨n_3, e_n_3, hf⟩ := bnd_some hf
  refine lv_nmi e_n_3 ?_
  obtain ⟨r_4, laws_letters_5, laws_stack_6, hg_7, hf⟩ := ob3_some hf
  refine cl_ViA (As := [.int v1, .int v2, .int v3, .int n_3]) (rest := []) C K hw (k_X9_riseAt a_told a_told_house a_told_free a_told_stuffed a_told_after a_told_weight a_told_need a_laws a_laws_codes a_laws_lengths a_laws_letters a_laws_stack a_S a_S_cells rw told_gloves told_matters told_pride told_coins told_after laws_size laws_holds laws_lengths laws_c0 laws_c1 laws_c2 laws_c3 S_cells r_4 laws_letters_5 laws_stack_6 laws_letters laws_stack v1 v2 v3 n_3 hg_7) [0, 1, 2, 3, 4, 5, 6, 7, 8, 9, 10, 11, 12] rfl (by decide) rfl rfl (ci := 9) (j := 11) rfl rfl (cwV 4 hts gX9_warmer_X9_riseAt rfl rfl rfl (by decide +kernel) ⟨Nat.le_of_ble_eq_true rfl, Nat.le_of_ble_eq_true rfl⟩) rfl hl rfl (Nat.le_of_ble_eq_true rfl) dX9_warmer_17 ⟨Nat.zero_le _, Nat.zero_le _⟩ (fun H locs hw => ?_)
  have hw : Wo D A s [(oX5 a_told (.int told_gloves) (.int told_matters) (.int told_pride) (.int told_coins) (.ref a_told_house) (.ref a_told_free) (.ref a_told_stuffed) (.ref a_told_after) (.ref a_told_weight) (.ref a_told_need)), (a_told_after, .inl (cI, 6, .inl told_after)), (oX2 a_laws (.int laws_size) (.int laws_holds) (.ref a_laws_codes) (.ref a_laws_lengths) (.ref a_laws_letters) (.ref a_laws_stack)), (a_laws_codes, .inl (cO, 4, .inr (.inr (.inr (.inr (rwF rw)))))), (a_laws_lengths, .inl (cI, 4, .inl laws_lengths)), (a_laws_letters, .inl (cI, 6, .inl laws_letters_5)), (a_laws_stack, .inl (cI, 241, .inl laws_stack_6)), ((rw 0), .inl (cI, 241, .inl laws_c0)), ((rw 1), .inl (cI, 241, .inl laws_c1)), ((rw 2), .inl (cI, 241, .inl laws_c2)), ((rw 3), .inl (cI, 241, .inl laws_c3)), (oX9 a_S (.ref a_S_cells) (.ref a_told) (.ref a_laws)), (a_S_cells, .inl (cI, 69, .inl S_cells))] H locs := hw
  refine lv_istore (lv' := [(5, .int r_4), (0, .ref a_S), (1, .int v1), (2, .int v2), (3, .int v3), (4, .int v4)]) hx hb dX9_warmer_20 hl (by decide) rfl (fun ls hl => ?_)
  refine lv_iconst (v := (0 : Int32)) hx hb dX9_warmer_22 (by decide) ?_
  refine lv_bipush (v := (99 : Int32)) hx hb dX9_warmer_23 (by decide) ?_
  refine lv_iload_n hx hb dX9_warmer_25 rfl (lv_at hl 4 rfl) ?_
  refine lv_iload hx hb dX9_warmer_26 (lv_at hl 0 rfl) ?_
  refine lv_iadd hx hb dX9_warmer_28 ?_
  refine va_mmin hx hb (hml.trans hl.1.symm) hown (hts _ lk_X9_warmer_0) (hts _ lk_X9_warmer_1) (hts _ lk_X9_warmer_2) (hts _ lk_X9_warmer_3) (Nat.le_of_ble_eq_true rfl) (Nat.le_of_ble_eq_true rfl) (Nat.zero_le _) (Nat.zero_le _) dX9_warmer_29 ?_
  obtain ⟨n_8, e_n_8, hf⟩ := bnd_some hf
  refine lv_nmi e_n_8 ?_
  refine va_mmax hx hb (hml.trans hl.1.symm) hown (hts _ lk_X9_warmer_4) (hts _ lk_X9_warmer_5) (hts _ lk_X9_warmer_2) (hts _ lk_X9_warmer_6) (Nat.le_of_ble_eq_true rfl) (Nat.le_of_ble_eq_true rfl) (Nat.zero_le _) (Nat.zero_le _) dX9_warmer_32 ?_
  obtain ⟨n_9, e_n_9, hf⟩ := bnd_some hf
  refine lv_nmi e_n_9 ?_
  cases hf
  exact retI C hw dX9_warmer_35 rfl
set_option maxHeartbeats 4000000 in
set_option maxRecDepth 100000 in
theorem k_X9_warmer {l : Launch} {sx : List sx_T} {D : va_G} {cI cZ cO : ClassId} (a_told : Nat) (a_told_house : Nat) (a_told_free : Nat) (a_told_stuffed : Nat) (a_told_after : Nat) (a_told_weight : Nat) (a_told_need : Nat) (a_laws : Nat) (a_laws_codes : Nat) (a_laws_lengths : Nat) (a_laws_letters : Nat) (a_laws_stack : Nat) (a_S : Nat) (a_S_cells : Nat) (rw : Nat → Nat) (told_gloves : Int32) (told_matters : Int32) (told_pride : Int32) (told_coins : Int32) (told_after : Nat → Int32) (laws_size : Int32) (laws_holds : Int32) (laws_lengths : Nat → Int32) (laws_c0 : Nat → Int32) (laws_c1 : Nat → Int32) (laws_c2 : Nat → Int32) (laws_c3 : Nat → Int32) (S_cells : Nat → Int32) (r0 : Int32) (o_laws_letters : Nat → Int32) (o_laws_stack : Nat → Int32) (laws_letters : Nat → Int32) (laws_stack : Nat → Int32) (p1 : Int32) (p2 : Int32) (p3 : Int32) (p4 : Int32) (hF : f_X9_warmer told_after laws_holds laws_lengths laws_c0 laws_c1 laws_c2 laws_c3 S_cells laws_letters laws_stack p1 p2 p3 p4 = some (r0, o_laws_letters, o_laws_stack)) : CtI l yX9_warmer wsX9_warmer rm_X9_warmer sx D (tyL cI cZ cO) [.ref a_S, .int p1, .int p2, .int p3, .int p4] [(oX5 a_told (.int told_gloves) (.int told_matters) (.int told_pride) (.int told_coins) (.ref a_told_house) (.ref a_told_free) (.ref a_told_stuffed) (.ref a_told_after) (.ref a_told_weight) (.ref a_told_need)), (a_told_after, .inl (cI, 6, .inl told_after)), (oX2 a_laws (.int laws_size) (.int laws_holds) (.ref a_laws_codes) (.ref a_laws_lengths) (.ref a_laws_letters) (.ref a_laws_stack)), (a_laws_codes, .inl (cO, 4, .inr (.inr (.inr (.inr (rwF rw)))))), (a_laws_lengths, .inl (cI, 4, .inl laws_lengths)), (a_laws_letters, .inl (cI, 6, .inl laws_letters)), (a_laws_stack, .inl (cI, 241, .inl laws_stack)), ((rw 0), .inl (cI, 241, .inl laws_c0)), ((rw 1), .inl (cI, 241, .inl laws_c1)), ((rw 2), .inl (cI, 241, .inl laws_c2)), ((rw 3), .inl (cI, 241, .inl laws_c3)), (oX9 a_S (.ref a_S_cells) (.ref a_told) (.ref a_laws)), (a_S_cells, .inl (cI, 69, .inl S_cells))] r0 [(oX5 a_told (.int told_gloves) (.int told_matters) (.int told_pride) (.int told_coins) (.ref a_told_house) (.ref a_told_free) (.ref a_told_stuffed) (.ref a_told_after) (.ref a_told_weight) (.ref a_told_need)), (a_told_after, .inl (cI, 6, .inl told_after)), (oX2 a_laws (.int laws_size) (.int laws_holds) (.ref a_laws_codes) (.ref a_laws_lengths) (.ref a_laws_letters) (.ref a_laws_stack)), (a_laws_codes, .inl (cO, 4, .inr (.inr (.inr (.inr (rwF rw)))))), (a_laws_lengths, .inl (cI, 4, .inl laws_lengths)), (a_laws_letters, .inl (cI, 6, .inl o_laws_letters)), (a_laws_stack, .inl (cI, 241, .inl o_laws_stack)), ((rw 0), .inl (cI, 241, .inl laws_c0)), ((rw 1), .inl (cI, 241, .inl laws_c1)), ((rw 2), .inl (cI, 241, .inl laws_c2)), ((rw 3), .inl (cI, 241, .inl laws_c3)), (oX9 a_S (.ref a_S_cells) (.ref a_told) (.ref a_laws)), (a_S_cells, .inl (cI, 69, .inl S_cells))] := by
  refine ctI_of (cc := cX9_warmer) (ret := (some .int)) (maxL := 6) (by decide) rfl (Nat.le_of_ble_eq_true rfl) ?_
  intro p e s m below meth c A ls C K hw hl
  exact q_X9_warmer_0 C K a_told a_told_house a_told_free a_told_stuffed a_told_after a_told_weight a_told_need a_laws a_laws_codes a_laws_lengths a_laws_letters a_laws_stack a_S a_S_cells rw told_gloves told_matters told_pride told_coins told_after laws_size laws_holds laws_lengths laws_c0 laws_c1 laws_c2 laws_c3 S_cells r0 o_laws_letters o_laws_stack laws_letters laws_stack p1 p2 p3 p4 hF hw (lv_sub hl [0, 1, 2, 3, 4] rfl)
abbrev rm_X9_signLowest : Room := { frames := 2, cells := 0, slots := 0, locals := 43 }
theorem in_X9_signLowest_X9 : ∀ w ∈ u_ws RX9 TX9 3, w ∈ wsX9_signLowest := fun w h => List.mem_cons_of_mem _ (bi_wsX90 w h)
theorem in_X9_signLowest_X5 : ∀ w ∈ u_ws RX5 TX5 10, w ∈ wsX9_signLowest := fun w h => List.mem_cons_of_mem _ (bi_wsX50 w h)
theorem lk_X9_signLowest_0 : Cond.fieldLink RX9 15 "GloveHouses$State" "told" "LGloveHouses$Peace;" ∈ wsX9_signLowest := List.mem_cons_of_mem _ (bi_wsL_law0_r5 _ (List.mem_of_getElem? (i := 12) rfl))
theorem lk_X9_signLowest_1 : Cond.fieldLink RX9 93 "GloveHouses$Peace" "matters" "I" ∈ wsX9_signLowest := List.mem_cons_of_mem _ (bi_wsL_law0_r31 _ (List.mem_of_getElem? (i := 8) rfl))
theorem lk_X9_signLowest_2 : Cond.fieldLink RX9 99 "GloveHouses$Peace" "need" "[I" ∈ wsX9_signLowest := List.mem_cons_of_mem _ (bi_wsL_law0_r31 _ (List.mem_of_getElem? (i := 9) rfl))
theorem lk_X9_signLowest_3 : Cond.fieldLink RX9 11 "GloveHouses$State" "cells" "[I" ∈ wsX9_signLowest := List.mem_cons_of_mem _ (bi_wsL_law0_r5 _ (List.mem_of_getElem? (i := 11) rfl))
theorem lk_X9_signLowest_4 : Cond.methodLink RX9 44 Lib.Math.min.name ∈ wsX9_signLowest := List.mem_cons_of_mem _ (bi_wsL_law0_r29 _ (List.mem_of_getElem? (i := 14) rfl))
theorem lk_X9_signLowest_5 : Cond.static Lib.Math.min.name ∈ wsX9_signLowest := List.mem_cons_of_mem _ (bi_wsL_law0_r27 _ (List.mem_of_getElem? (i := 18) rfl))
theorem lk_X9_signLowest_6 : Cond.initialized "java/lang/Math" ∈ wsX9_signLowest := List.mem_cons_of_mem _ (bi_wsL_law0_r27 _ (List.mem_of_getElem? (i := 19) rfl))
theorem lk_X9_signLowest_7 : Cond.code Lib.Math.min.name Lib.Math.min.code 2 (some .int) ∈ wsX9_signLowest := List.mem_cons_of_mem _ (bi_wsL_law0_r27 _ (List.mem_of_getElem? (i := 20) rfl))
theorem lk_X9_signLowest_8 : Cond.methodLink RX9 80 Lib.Math.max.name ∈ wsX9_signLowest := List.mem_cons_of_mem _ (bi_wsL_law0_r29 _ (List.mem_of_getElem? (i := 15) rfl))
theorem lk_X9_signLowest_9 : Cond.static Lib.Math.max.name ∈ wsX9_signLowest := List.mem_cons_of_mem _ (bi_wsL_law0_r27 _ (List.mem_of_getElem? (i := 22) rfl))
theorem lk_X9_signLowest_10 : Cond.code Lib.Math.max.name Lib.Math.max.code 2 (some .int) ∈ wsX9_signLowest := List.mem_cons_of_mem _ (bi_wsL_law0_r27 _ (List.mem_of_getElem? (i := 23) rfl))
set_option maxHeartbeats 4000000 in
set_option maxRecDepth 100000 in
theorem q_X9_signLowest_77 {p : Program} {l : Launch} {e : Env} {s : State} {m : MethodId} {args : Array Value} {below : List Frame} {meth : Method} {c : Code} {sx : List sx_T} {D : va_G} {cI cZ cO : ClassId} {A : Nat → Prop} (C : Cx p s m args meth c RX9 wsX9_signLowest cX9_signLowest 4 none) (K : Kx sx D (tyL cI cZ cO) A s) (a_told : Nat) (a_told_house : Nat) (a_told_free : Nat) (a_told_stuffed : Nat) (a_told_after : Nat) (a_told_weight : Nat) (a_told_need : Nat) (a_S : Nat) (a_S_cells : Nat) (a_laws : Nat) (told_gloves : Int32) (told_matters : Int32) (told_pride : Int32) (told_coins : Int32) (told_need : Nat → Int32) (o_S_cells : Nat → Int32)   (k2 : (Nat → Int32) → Int32 → Int32 → Int32 → Option ((Nat → Int32))) (hk2 : ∀ (S_cells : Nat → Int32) (v1 : Int32) (v2 : Int32) (v3 : Int32) (H : Heap) (locs : List Loc) (ls : Array Slot), k2 S_cells v1 v2 v3 = some o_S_cells → Wo D A s [(oX5 a_told (.int told_gloves) (.int told_matters) (.int told_pride) (.int told_coins) (.ref a_told_house) (.ref a_told_free) (.ref a_told_stuffed) (.ref a_told_after) (.ref a_told_weight) (.ref a_told_need)), (a_told_need, .inl (cI, 5, .inl told_need)), (oX9 a_S (.ref a_S_cells) (.ref a_told) (.ref a_laws)), (a_S_cells, .inl (cI, 69, .inl S_cells))] H locs → lv_has ls 4 [(0, .ref a_S), (1, .int v1), (2, .int v2), (3, .int v3)] → W p l e rm_X9_signLowest s m args below meth c H locs 0 0 (MQ below (QcV D A [(oX5 a_told (.int told_gloves) (.int told_matters) (.int told_pride) (.int told_coins) (.ref a_told_house) (.ref a_told_free) (.ref a_told_stuffed) (.ref a_told_after) (.ref a_told_weight) (.ref a_told_need)), (a_told_need, .inl (cI, 5, .inl told_need)), (oX9 a_S (.ref a_S_cells) (.ref a_told) (.ref a_laws)), (a_S_cells, .inl (cI, 69, .inl o_S_cells))]) args s 0 0 A) (F0 m 2 ls [])) (S_cells : Nat → Int32) (v1 : Int32) (v2 : Int32) (v3 : Int32) {H : Heap} {locs : List Loc} {ls : Array Slot} (hf : b_X9_signLowest_77 told_matters told_need k2 S_cells v1 v2 v3 = some o_S_cells) (hw : Wo D A s [(oX5 a_told (.int told_gloves) (.int told_matters) (.int told_pride) (.int told_coins) (.ref a_told_house) (.ref a_told_free) (.ref a_told_stuffed) (.ref a_told_after) (.ref a_told_weight) (.ref a_told_need)), (a_told_need, .inl (cI, 5, .inl told_need)), (oX9 a_S (.ref a_S_cells) (.ref a_told) (.ref a_laws)), (a_S_cells, .inl (cI, 69, .inl S_cells))] H locs) (hl : lv_has ls 4 [(0, .ref a_S), (1, .int v1), (2, .int v2), (3, .int v3)]) : W p l e rm_X9_signLowest s m args below meth c H locs 0 0 (MQ below (QcV D A [(oX5 a_told (.int told_gloves) (.int told_matters) (.int told_pride) (.int told_coins) (.ref a_told_house) (.ref a_told_free) (.ref a_told_stuffed) (.ref a_told_after) (.ref a_told_weight) (.ref a_told_need)), (a_told_need, .inl (cI, 5, .inl told_need)), (oX9 a_S (.ref a_S_cells) (.ref a_told) (.ref a_laws)), (a_S_cells, .inl (cI, 69, .inl o_S_cells))]) args s 0 0 A) (F0 m 77 ls []) := by
  obtain ⟨hx, hb, hml, hown, hts, hr, hlk⟩ := id C
  obtain ⟨hK, hX, hA⟩ := id K
  unfold b_X9_signLowest_77 at hf
  obtain ⟨v3_1, e_v3_1, hf⟩ := bnd_some hf
  refine lv_iinc (v := v3_1) (lv' := [(3, .int v3_1), (0, .ref a_S), (1, .int v1), (2, .int v2)]) hx hb dX9_signLowest_77 hl (k := 3) rfl (by rw [e_v3_1]; rfl) (by decide) rfl (fun ls hl => ?_)
  refine lv_goto (tgt := 2) hx hb dX9_signLowest_80 (by decide) ?_
  exact hk2 S_cells v1 v2 v3_1 _ _ _ hf hw (lv_sub hl [1, 2, 3, 0] rfl)
set_option maxHeartbeats 4000000 in
set_option maxRecDepth 100000 in
theorem q_X9_signLowest_2 {p : Program} {l : Launch} {e : Env} {s : State} {m : MethodId} {args : Array Value} {below : List Frame} {meth : Method} {c : Code} {sx : List sx_T} {D : va_G} {cI cZ cO : ClassId} {A : Nat → Prop} (C : Cx p s m args meth c RX9 wsX9_signLowest cX9_signLowest 4 none) (K : Kx sx D (tyL cI cZ cO) A s) (a_told : Nat) (a_told_house : Nat) (a_told_free : Nat) (a_told_stuffed : Nat) (a_told_after : Nat) (a_told_weight : Nat) (a_told_need : Nat) (a_S : Nat) (a_S_cells : Nat) (a_laws : Nat) (told_gloves : Int32) (told_matters : Int32) (told_pride : Int32) (told_coins : Int32) (told_need : Nat → Int32) (o_S_cells : Nat → Int32)   (k2 : (Nat → Int32) → Int32 → Int32 → Int32 → Option ((Nat → Int32))) (hk2 : ∀ (S_cells : Nat → Int32) (v1 : Int32) (v2 : Int32) (v3 : Int32) (H : Heap) (locs : List Loc) (ls : Array Slot), k2 S_cells v1 v2 v3 = some o_S_cells → Wo D A s [(oX5 a_told (.int told_gloves) (.int told_matters) (.int told_pride) (.int told_coins) (.ref a_told_house) (.ref a_told_free) (.ref a_told_stuffed) (.ref a_told_after) (.ref a_told_weight) (.ref a_told_need)), (a_told_need, .inl (cI, 5, .inl told_need)), (oX9 a_S (.ref a_S_cells) (.ref a_told) (.ref a_laws)), (a_S_cells, .inl (cI, 69, .inl S_cells))] H locs → lv_has ls 4 [(0, .ref a_S), (1, .int v1), (2, .int v2), (3, .int v3)] → W p l e rm_X9_signLowest s m args below meth c H locs 0 0 (MQ below (QcV D A [(oX5 a_told (.int told_gloves) (.int told_matters) (.int told_pride) (.int told_coins) (.ref a_told_house) (.ref a_told_free) (.ref a_told_stuffed) (.ref a_told_after) (.ref a_told_weight) (.ref a_told_need)), (a_told_need, .inl (cI, 5, .inl told_need)), (oX9 a_S (.ref a_S_cells) (.ref a_told) (.ref a_laws)), (a_S_cells, .inl (cI, 69, .inl o_S_cells))]) args s 0 0 A) (F0 m 2 ls [])) (S_cells : Nat → Int32) (v1 : Int32) (v2 : Int32) (v3 : Int32) {H : Heap} {locs : List Loc} {ls : Array Slot} (hf : b_X9_signLowest_2 told_matters told_need k2 S_cells v1 v2 v3 = some o_S_cells) (hw : Wo D A s [(oX5 a_told (.int told_gloves) (.int told_matters) (.int told_pride) (.int told_coins) (.ref a_told_house) (.ref a_told_free) (.ref a_told_stuffed) (.ref a_told_after) (.ref a_told_weight) (.ref a_told_need)), (a_told_need, .inl (cI, 5, .inl told_need)), (oX9 a_S (.ref a_S_cells) (.ref a_told) (.ref a_laws)), (a_S_cells, .inl (cI, 69, .inl S_cells))] H locs) (hl : lv_has ls 4 [(0, .ref a_S), (1, .int v1), (2, .int v2), (3, .int v3)]) : W p l e rm_X9_signLowest s m args below meth c H locs 0 0 (MQ below (QcV D A [(oX5 a_told (.int told_gloves) (.int told_matters) (.int told_pride) (.int told_coins) (.ref a_told_house) (.ref a_told_free) (.ref a_told_stuffed) (.ref a_told_after) (.ref a_told_weight) (.ref a_told_need)), (a_told_need, .inl (cI, 5, .inl told_need)), (oX9 a_S (.ref a_S_cells) (.ref a_told) (.ref a_laws)), (a_S_cells, .inl (cI, 69, .inl o_S_cells))]) args s 0 0 A) (F0 m 2 ls []) := by
  obtain ⟨hx, hb, hml, hown, hts, hr, hlk⟩ := id C
  obtain ⟨hK, hX, hA⟩ := id K
  unfold b_X9_signLowest_2 at hf
  refine lv_iload_n hx hb dX9_signLowest_2 rfl (lv_at hl 3 rfl) ?_
  refine lv_aload_n hx hb dX9_signLowest_3 rfl (lv_at hl 0 rfl) ?_
  refine va_get (ci := 9) (v := .ref a_told) (C := RX9) (T := TX9) (N := 3) hx hb hts in_X9_signLowest_X9 hown hK hw.1 2 rfl rfl 1 (by decide) (hts _ lk_X9_signLowest_0) (fun _ h9 => h9) rfl dX9_signLowest_4 ?_
  refine va_get (ci := 5) (v := .int told_matters) (C := RX5) (T := TX5) (N := 10) hx hb hts in_X9_signLowest_X5 hown hK hw.1 0 rfl rfl 1 (by decide) (hts _ lk_X9_signLowest_1) (fun _ h9 => h9) rfl dX9_signLowest_7 ?_
  refine lv_icmp_ge (tgt := 83) hx hb dX9_signLowest_10 (by decide) (fun hc => ?_) (fun hc => ?_)
  · have hf := (if_pos hc).symm.trans hf
    clear hk2; cases hf
    exact retV C hw dX9_signLowest_83
  · have hf := (if_neg hc).symm.trans hf
    refine lv_aload_n hx hb dX9_signLowest_13 rfl (lv_at hl 0 rfl) ?_
    refine lv_iload_n hx hb dX9_signLowest_14 rfl (lv_at hl 3 rfl) ?_
    obtain ⟨r_1, hg_2, hf⟩ := ob1_some hf
    refine cl_ViA (As := [.int v3]) (rest := []) C K hw (k_X9_signers a_S a_S_cells a_told a_laws S_cells r_1 v3 hg_2) [2, 3] rfl (by decide) rfl rfl (ci := 9) (j := 2) rfl rfl (cwV 1 hts gX9_signLowest_X9_signers rfl rfl rfl (by decide +kernel) ⟨Nat.le_of_ble_eq_true rfl, Nat.le_of_ble_eq_true rfl⟩) rfl hl rfl (Nat.le_of_ble_eq_true rfl) dX9_signLowest_15 ⟨Nat.zero_le _, Nat.zero_le _⟩ (fun H locs hw => ?_)
    have hw : Wo D A s [(oX5 a_told (.int told_gloves) (.int told_matters) (.int told_pride) (.int told_coins) (.ref a_told_house) (.ref a_told_free) (.ref a_told_stuffed) (.ref a_told_after) (.ref a_told_weight) (.ref a_told_need)), (a_told_need, .inl (cI, 5, .inl told_need)), (oX9 a_S (.ref a_S_cells) (.ref a_told) (.ref a_laws)), (a_S_cells, .inl (cI, 69, .inl S_cells))] H locs := hw
    refine lv_iconst (v := (-1 : Int32)) hx hb dX9_signLowest_18 (by decide) ?_
    refine lv_icmp_ne (tgt := 77) hx hb dX9_signLowest_19 (by decide) (fun hc => ?_) (fun hc => ?_)
    · have hf := (if_neg hc).symm.trans hf
      exact q_X9_signLowest_77 C K a_told a_told_house a_told_free a_told_stuffed a_told_after a_told_weight a_told_need a_S a_S_cells a_laws told_gloves told_matters told_pride told_coins told_need o_S_cells k2 hk2 S_cells v1 v2 v3 hf hw (lv_sub hl [0, 1, 2, 3] rfl)
    · have hf := (if_pos hc).symm.trans hf
      refine lv_aload_n hx hb dX9_signLowest_22 rfl (lv_at hl 0 rfl) ?_
      refine lv_iload_n hx hb dX9_signLowest_23 rfl (lv_at hl 1 rfl) ?_
      refine lv_iload_n hx hb dX9_signLowest_24 rfl (lv_at hl 2 rfl) ?_
      obtain ⟨r_3, hg_4, hf⟩ := ob1_some hf
      refine cl_ViA (As := [.int v1, .int v2]) (rest := []) C K hw (k_X9_warmthOf a_S a_S_cells a_told a_laws S_cells r_3 v1 v2 hg_4) [2, 3] rfl (by decide) rfl rfl (ci := 9) (j := 2) rfl rfl (cwV 2 hts gX9_signLowest_X9_warmthOf rfl rfl rfl (by decide +kernel) ⟨Nat.le_of_ble_eq_true rfl, Nat.le_of_ble_eq_true rfl⟩) rfl hl rfl (Nat.le_of_ble_eq_true rfl) dX9_signLowest_25 ⟨Nat.zero_le _, Nat.zero_le _⟩ (fun H locs hw => ?_)
      have hw : Wo D A s [(oX5 a_told (.int told_gloves) (.int told_matters) (.int told_pride) (.int told_coins) (.ref a_told_house) (.ref a_told_free) (.ref a_told_stuffed) (.ref a_told_after) (.ref a_told_weight) (.ref a_told_need)), (a_told_need, .inl (cI, 5, .inl told_need)), (oX9 a_S (.ref a_S_cells) (.ref a_told) (.ref a_laws)), (a_S_cells, .inl (cI, 69, .inl S_cells))] H locs := hw
      refine lv_aload_n hx hb dX9_signLowest_28 rfl (lv_at hl 0 rfl) ?_
      refine va_get (ci := 9) (v := .ref a_told) (C := RX9) (T := TX9) (N := 3) hx hb hts in_X9_signLowest_X9 hown hK hw.1 2 rfl rfl 1 (by decide) (hts _ lk_X9_signLowest_0) (fun _ h9 => h9) rfl dX9_signLowest_29 ?_
      refine va_get (ci := 5) (v := .ref a_told_need) (C := RX5) (T := TX5) (N := 10) hx hb hts in_X9_signLowest_X5 hown hK hw.1 0 rfl rfl 9 (by decide) (hts _ lk_X9_signLowest_2) (fun _ h9 => h9) rfl dX9_signLowest_32 ?_
      refine lv_iload_n hx hb dX9_signLowest_35 rfl (lv_at hl 3 rfl) ?_
      obtain ⟨hc_5, hf⟩ := gd_some hf
      refine va_iald hx hb hK hw.1 1 0 rfl rfl (inB_in hc_5) dX9_signLowest_36 ?_
      refine lv_icmp_lt (tgt := 77) hx hb dX9_signLowest_37 (by decide) (fun hc => ?_) (fun hc => ?_)
      · have hf := (if_pos hc).symm.trans hf
        exact q_X9_signLowest_77 C K a_told a_told_house a_told_free a_told_stuffed a_told_after a_told_weight a_told_need a_S a_S_cells a_laws told_gloves told_matters told_pride told_coins told_need o_S_cells k2 hk2 S_cells v1 v2 v3 hf hw (lv_sub hl [0, 1, 2, 3] rfl)
      · have hf := (if_neg hc).symm.trans hf
        refine lv_aload_n hx hb dX9_signLowest_40 rfl (lv_at hl 0 rfl) ?_
        refine va_get (ci := 9) (v := .ref a_S_cells) (C := RX9) (T := TX9) (N := 3) hx hb hts in_X9_signLowest_X9 hown hK hw.1 2 rfl rfl 0 (by decide) (hts _ lk_X9_signLowest_3) (fun _ h9 => h9) rfl dX9_signLowest_41 ?_
        refine lv_bipush (v := (60 : Int32)) hx hb dX9_signLowest_44 (by decide) ?_
        refine lv_iload_n hx hb dX9_signLowest_46 rfl (lv_at hl 3 rfl) ?_
        refine lv_iadd hx hb dX9_signLowest_47 ?_
        refine lv_bipush (v := (10 : Int32)) hx hb dX9_signLowest_48 (by decide) ?_
        refine lv_iload_n hx hb dX9_signLowest_50 rfl (lv_at hl 1 rfl) ?_
        refine lv_iload_n hx hb dX9_signLowest_51 rfl (lv_at hl 2 rfl) ?_
        refine va_mmin hx hb (hml.trans hl.1.symm) hown (hts _ lk_X9_signLowest_4) (hts _ lk_X9_signLowest_5) (hts _ lk_X9_signLowest_6) (hts _ lk_X9_signLowest_7) (Nat.le_of_ble_eq_true rfl) (Nat.le_of_ble_eq_true rfl) (Nat.zero_le _) (Nat.zero_le _) dX9_signLowest_52 ?_
        obtain ⟨n_6, e_n_6, hf⟩ := bnd_some hf
        refine lv_nmi e_n_6 ?_
        refine lv_imul hx hb dX9_signLowest_55 ?_
        refine lv_iload_n hx hb dX9_signLowest_56 rfl (lv_at hl 1 rfl) ?_
        refine lv_iload_n hx hb dX9_signLowest_57 rfl (lv_at hl 2 rfl) ?_
        refine va_mmax hx hb (hml.trans hl.1.symm) hown (hts _ lk_X9_signLowest_8) (hts _ lk_X9_signLowest_9) (hts _ lk_X9_signLowest_6) (hts _ lk_X9_signLowest_10) (Nat.le_of_ble_eq_true rfl) (Nat.le_of_ble_eq_true rfl) (Nat.zero_le _) (Nat.zero_le _) dX9_signLowest_58 ?_
        obtain ⟨n_7, e_n_7, hf⟩ := bnd_some hf
        refine lv_nmi e_n_7 ?_
        refine lv_iadd hx hb dX9_signLowest_61 ?_
        obtain ⟨hc_8, hf⟩ := gd_some hf
        obtain ⟨S_cells_9, e_S_cells_9, hf⟩ := bnd_some hf
        refine va_iast hx hb hK hw.1 hw.2.1 hw.2.2 3 0 rfl rfl (inB_in hc_8) dX9_signLowest_62 (fun H locs hP hD hS => ?_)
        have hw : Wo D A s [(oX5 a_told (.int told_gloves) (.int told_matters) (.int told_pride) (.int told_coins) (.ref a_told_house) (.ref a_told_free) (.ref a_told_stuffed) (.ref a_told_after) (.ref a_told_weight) (.ref a_told_need)), (a_told_need, .inl (cI, 5, .inl told_need)), (oX9 a_S (.ref a_S_cells) (.ref a_told) (.ref a_laws)), (a_S_cells, .inl (cI, 69, .inl S_cells_9))] H locs := by rw [e_S_cells_9]; exact ⟨hP, hD, hS⟩
        refine lv_aload_n hx hb dX9_signLowest_63 rfl (lv_at hl 0 rfl) ?_
        refine va_get (ci := 9) (v := .ref a_S_cells) (C := RX9) (T := TX9) (N := 3) hx hb hts in_X9_signLowest_X9 hown hK hw.1 2 rfl rfl 0 (by decide) (hts _ lk_X9_signLowest_3) (fun _ h9 => h9) rfl dX9_signLowest_64 ?_
        refine lv_bipush (v := (65 : Int32)) hx hb dX9_signLowest_67 (by decide) ?_
        refine lv_dup2_11 hx hb dX9_signLowest_69 rfl rfl ?_
        obtain ⟨hc_10, hf⟩ := gd_some hf
        refine va_iald hx hb hK hw.1 3 0 rfl rfl (inB_in hc_10) dX9_signLowest_70 ?_
        refine lv_iconst (v := (1 : Int32)) hx hb dX9_signLowest_71 (by decide) ?_
        refine lv_iload_n hx hb dX9_signLowest_72 rfl (lv_at hl 3 rfl) ?_
        refine lv_ishl hx hb dX9_signLowest_73 ?_
        refine lv_ior hx hb dX9_signLowest_74 ?_
        obtain ⟨n_11, e_n_11, hf⟩ := bnd_some hf
        refine lv_nmi e_n_11 ?_
        obtain ⟨hc_12, hf⟩ := gd_some hf
        obtain ⟨S_cells_13, e_S_cells_13, hf⟩ := bnd_some hf
        refine va_iast hx hb hK hw.1 hw.2.1 hw.2.2 3 0 rfl rfl (inB_in hc_12) dX9_signLowest_75 (fun H locs hP hD hS => ?_)
        have hw : Wo D A s [(oX5 a_told (.int told_gloves) (.int told_matters) (.int told_pride) (.int told_coins) (.ref a_told_house) (.ref a_told_free) (.ref a_told_stuffed) (.ref a_told_after) (.ref a_told_weight) (.ref a_told_need)), (a_told_need, .inl (cI, 5, .inl told_need)), (oX9 a_S (.ref a_S_cells) (.ref a_told) (.ref a_laws)), (a_S_cells, .inl (cI, 69, .inl S_cells_13))] H locs := by rw [e_S_cells_13]; exact ⟨hP, hD, hS⟩
        clear hk2; cases hf
        exact retV C hw dX9_signLowest_76
theorem qf_X9_signLowest_2 {p : Program} {l : Launch} {e : Env} {s : State} {m : MethodId} {args : Array Value} {below : List Frame} {meth : Method} {c : Code} {sx : List sx_T} {D : va_G} {cI cZ cO : ClassId} {A : Nat → Prop} (C : Cx p s m args meth c RX9 wsX9_signLowest cX9_signLowest 4 none) (K : Kx sx D (tyL cI cZ cO) A s) (a_told : Nat) (a_told_house : Nat) (a_told_free : Nat) (a_told_stuffed : Nat) (a_told_after : Nat) (a_told_weight : Nat) (a_told_need : Nat) (a_S : Nat) (a_S_cells : Nat) (a_laws : Nat) (told_gloves : Int32) (told_matters : Int32) (told_pride : Int32) (told_coins : Int32) (told_need : Nat → Int32) (o_S_cells : Nat → Int32)    (n : Nat) : ∀ (S_cells : Nat → Int32) (v1 : Int32) (v2 : Int32) (v3 : Int32) (H : Heap) (locs : List Loc) (ls : Array Slot), f_X9_signLowest_2 told_matters told_need  n S_cells v1 v2 v3 = some o_S_cells → Wo D A s [(oX5 a_told (.int told_gloves) (.int told_matters) (.int told_pride) (.int told_coins) (.ref a_told_house) (.ref a_told_free) (.ref a_told_stuffed) (.ref a_told_after) (.ref a_told_weight) (.ref a_told_need)), (a_told_need, .inl (cI, 5, .inl told_need)), (oX9 a_S (.ref a_S_cells) (.ref a_told) (.ref a_laws)), (a_S_cells, .inl (cI, 69, .inl S_cells))] H locs → lv_has ls 4 [(0, .ref a_S), (1, .int v1), (2, .int v2), (3, .int v3)] → W p l e rm_X9_signLowest s m args below meth c H locs 0 0 (MQ below (QcV D A [(oX5 a_told (.int told_gloves) (.int told_matters) (.int told_pride) (.int told_coins) (.ref a_told_house) (.ref a_told_free) (.ref a_told_stuffed) (.ref a_told_after) (.ref a_told_weight) (.ref a_told_need)), (a_told_need, .inl (cI, 5, .inl told_need)), (oX9 a_S (.ref a_S_cells) (.ref a_told) (.ref a_laws)), (a_S_cells, .inl (cI, 69, .inl o_S_cells))]) args s 0 0 A) (F0 m 2 ls []) := by
  induction n with
  | zero =>
    intro S_cells v1 v2 v3 H locs ls hf
    have h9 : (none : Option ((Nat → Int32))) = some o_S_cells := hf
    cases h9
  | succ n ih =>
    intro S_cells v1 v2 v3 H locs ls hf hw hl
    exact q_X9_signLowest_2 C K a_told a_told_house a_told_free a_told_stuffed a_told_after a_told_weight a_told_need a_S a_S_cells a_laws told_gloves told_matters told_pride told_coins told_need o_S_cells  (f_X9_signLowest_2 told_matters told_need  n) ih S_cells v1 v2 v3 hf hw hl
set_option maxHeartbeats 4000000 in
set_option maxRecDepth 100000 in
theorem q_X9_signLowest_0 {p : Program} {l : Launch} {e : Env} {s : State} {m : MethodId} {args : Array Value} {below : List Frame} {meth : Method} {c : Code} {sx : List sx_T} {D : va_G} {cI cZ cO : ClassId} {A : Nat → Prop} (C : Cx p s m args meth c RX9 wsX9_signLowest cX9_signLowest 4 none) (K : Kx sx D (tyL cI cZ cO) A s) (a_told : Nat) (a_told_house : Nat) (a_told_free : Nat) (a_told_stuffed : Nat) (a_told_after : Nat) (a_told_weight : Nat) (a_told_need : Nat) (a_S : Nat) (a_S_cells : Nat) (a_laws : Nat) (told_gloves : Int32) (told_matters : Int32) (told_pride : Int32) (told_coins : Int32) (told_need : Nat → Int32) (o_S_cells : Nat → Int32)    (S_cells : Nat → Int32) (v1 : Int32) (v2 : Int32) {H : Heap} {locs : List Loc} {ls : Array Slot} (hf : b_X9_signLowest_0 told_matters told_need  S_cells v1 v2 = some o_S_cells) (hw : Wo D A s [(oX5 a_told (.int told_gloves) (.int told_matters) (.int told_pride) (.int told_coins) (.ref a_told_house) (.ref a_told_free) (.ref a_told_stuffed) (.ref a_told_after) (.ref a_told_weight) (.ref a_told_need)), (a_told_need, .inl (cI, 5, .inl told_need)), (oX9 a_S (.ref a_S_cells) (.ref a_told) (.ref a_laws)), (a_S_cells, .inl (cI, 69, .inl S_cells))] H locs) (hl : lv_has ls 4 [(0, .ref a_S), (1, .int v1), (2, .int v2)]) : W p l e rm_X9_signLowest s m args below meth c H locs 0 0 (MQ below (QcV D A [(oX5 a_told (.int told_gloves) (.int told_matters) (.int told_pride) (.int told_coins) (.ref a_told_house) (.ref a_told_free) (.ref a_told_stuffed) (.ref a_told_after) (.ref a_told_weight) (.ref a_told_need)), (a_told_need, .inl (cI, 5, .inl told_need)), (oX9 a_S (.ref a_S_cells) (.ref a_told) (.ref a_laws)), (a_S_cells, .inl (cI, 69, .inl o_S_cells))]) args s 0 0 A) (F0 m 0 ls []) := by
  obtain ⟨hx, hb, hml, hown, hts, hr, hlk⟩ := id C
  obtain ⟨hK, hX, hA⟩ := id K
  unfold b_X9_signLowest_0 at hf
  refine lv_iconst (v := (0 : Int32)) hx hb dX9_signLowest_0 (by decide) ?_
  refine lv_istore_n (lv' := [(3, .int (0 : Int32)), (0, .ref a_S), (1, .int v1), (2, .int v2)]) hx hb dX9_signLowest_1 rfl hl (by decide) rfl (fun ls hl => ?_)
  exact qf_X9_signLowest_2 C K a_told a_told_house a_told_free a_told_stuffed a_told_after a_told_weight a_told_need a_S a_S_cells a_laws told_gloves told_matters told_pride told_coins told_need o_S_cells  fu S_cells v1 v2 (0 : Int32) _ _ _ hf hw (lv_sub hl [1, 2, 3, 0] rfl)
set_option maxHeartbeats 4000000 in
set_option maxRecDepth 100000 in
theorem k_X9_signLowest {l : Launch} {sx : List sx_T} {D : va_G} {cI cZ cO : ClassId} (a_told : Nat) (a_told_house : Nat) (a_told_free : Nat) (a_told_stuffed : Nat) (a_told_after : Nat) (a_told_weight : Nat) (a_told_need : Nat) (a_S : Nat) (a_S_cells : Nat) (a_laws : Nat) (told_gloves : Int32) (told_matters : Int32) (told_pride : Int32) (told_coins : Int32) (told_need : Nat → Int32) (o_S_cells : Nat → Int32) (S_cells : Nat → Int32) (p1 : Int32) (p2 : Int32) (hF : f_X9_signLowest told_matters told_need S_cells p1 p2 = some o_S_cells) : CtV l yX9_signLowest wsX9_signLowest rm_X9_signLowest sx D (tyL cI cZ cO) [.ref a_S, .int p1, .int p2] [(oX5 a_told (.int told_gloves) (.int told_matters) (.int told_pride) (.int told_coins) (.ref a_told_house) (.ref a_told_free) (.ref a_told_stuffed) (.ref a_told_after) (.ref a_told_weight) (.ref a_told_need)), (a_told_need, .inl (cI, 5, .inl told_need)), (oX9 a_S (.ref a_S_cells) (.ref a_told) (.ref a_laws)), (a_S_cells, .inl (cI, 69, .inl S_cells))] [(oX5 a_told (.int told_gloves) (.int told_matters) (.int told_pride) (.int told_coins) (.ref a_told_house) (.ref a_told_free) (.ref a_told_stuffed) (.ref a_told_after) (.ref a_told_weight) (.ref a_told_need)), (a_told_need, .inl (cI, 5, .inl told_need)), (oX9 a_S (.ref a_S_cells) (.ref a_told) (.ref a_laws)), (a_S_cells, .inl (cI, 69, .inl o_S_cells))] := by
  refine ctV_of (cc := cX9_signLowest) (ret := none) (maxL := 4) (by decide) rfl (Nat.le_of_ble_eq_true rfl) ?_
  intro p e s m below meth c A ls C K hw hl
  exact q_X9_signLowest_0 C K a_told a_told_house a_told_free a_told_stuffed a_told_after a_told_weight a_told_need a_S a_S_cells a_laws told_gloves told_matters told_pride told_coins told_need o_S_cells S_cells p1 p2 hF hw (lv_sub hl [0, 1, 2] rfl)
abbrev rm_X9_meet : Room := { frames := 5, cells := 0, slots := 0, locals := 127 }
theorem in_X9_meet_X9 : ∀ w ∈ u_ws RX9 TX9 3, w ∈ wsX9_meet := fun w h => List.mem_cons_of_mem _ (bi_wsX90 w h)
theorem lk_X9_meet_0 : Cond.fieldLink RX9 11 "GloveHouses$State" "cells" "[I" ∈ wsX9_meet := List.mem_cons_of_mem _ (bi_wsL_law0_r5 _ (List.mem_of_getElem? (i := 11) rfl))
theorem lk_X9_meet_1 : Cond.initialized RX9 ∈ wsX9_meet := List.mem_cons_of_mem _ (bi_wsL_law0_r2 _ (List.mem_of_getElem? (i := 12) rfl))
theorem lk_X9_meet_2 : Cond.methodLink RX9 50 yX9_placeOf ∈ wsX9_meet := List.mem_cons_of_mem _ (bi_wsL_law0_r27 _ (List.mem_of_getElem? (i := 3) rfl))
theorem lk_X9_meet_3 : Cond.static yX9_placeOf ∈ wsX9_meet := List.mem_cons_of_mem _ (bi_wsL_law0_r27 _ (List.mem_of_getElem? (i := 4) rfl))
set_option maxHeartbeats 4000000 in
set_option maxRecDepth 100000 in
theorem q_X9_meet_0 {p : Program} {l : Launch} {e : Env} {s : State} {m : MethodId} {args : Array Value} {below : List Frame} {meth : Method} {c : Code} {sx : List sx_T} {D : va_G} {cI cZ cO : ClassId} {A : Nat → Prop} (C : Cx p s m args meth c RX9 wsX9_meet cX9_meet 4 none) (K : Kx sx D (tyL cI cZ cO) A s) (a_told : Nat) (a_told_house : Nat) (a_told_free : Nat) (a_told_stuffed : Nat) (a_told_after : Nat) (a_told_weight : Nat) (a_told_need : Nat) (a_laws : Nat) (a_laws_codes : Nat) (a_laws_lengths : Nat) (a_laws_letters : Nat) (a_laws_stack : Nat) (a_S : Nat) (a_S_cells : Nat) (rw : Nat → Nat) (told_gloves : Int32) (told_matters : Int32) (told_pride : Int32) (told_coins : Int32) (told_after : Nat → Int32) (told_need : Nat → Int32) (laws_size : Int32) (laws_holds : Int32) (laws_lengths : Nat → Int32) (laws_c0 : Nat → Int32) (laws_c1 : Nat → Int32) (laws_c2 : Nat → Int32) (laws_c3 : Nat → Int32) (o_laws_letters : Nat → Int32) (o_laws_stack : Nat → Int32) (o_S_cells : Nat → Int32)    (laws_letters : Nat → Int32) (laws_stack : Nat → Int32) (S_cells : Nat → Int32) (v1 : Int32) (v2 : Int32) {H : Heap} {locs : List Loc} {ls : Array Slot} (hf : b_X9_meet_0 told_matters told_after told_need laws_holds laws_lengths laws_c0 laws_c1 laws_c2 laws_c3  laws_letters laws_stack S_cells v1 v2 = some (o_laws_letters, o_laws_stack, o_S_cells)) (hw : Wo D A s [(oX5 a_told (.int told_gloves) (.int told_matters) (.int told_pride) (.int told_coins) (.ref a_told_house) (.ref a_told_free) (.ref a_told_stuffed) (.ref a_told_after) (.ref a_told_weight) (.ref a_told_need)), (a_told_after, .inl (cI, 6, .inl told_after)), (a_told_need, .inl (cI, 5, .inl told_need)), (oX2 a_laws (.int laws_size) (.int laws_holds) (.ref a_laws_codes) (.ref a_laws_lengths) (.ref a_laws_letters) (.ref a_laws_stack)), (a_laws_codes, .inl (cO, 4, .inr (.inr (.inr (.inr (rwF rw)))))), (a_laws_lengths, .inl (cI, 4, .inl laws_lengths)), (a_laws_letters, .inl (cI, 6, .inl laws_letters)), (a_laws_stack, .inl (cI, 241, .inl laws_stack)), ((rw 0), .inl (cI, 241, .inl laws_c0)), ((rw 1), .inl (cI, 241, .inl laws_c1)), ((rw 2), .inl (cI, 241, .inl laws_c2)), ((rw 3), .inl (cI, 241, .inl laws_c3)), (oX9 a_S (.ref a_S_cells) (.ref a_told) (.ref a_laws)), (a_S_cells, .inl (cI, 69, .inl S_cells))] H locs) (hl : lv_has ls 4 [(0, .ref a_S), (1, .int v1), (2, .int v2)]) : W p l e rm_X9_meet s m args below meth c H locs 0 0 (MQ below (QcV D A [(oX5 a_told (.int told_gloves) (.int told_matters) (.int told_pride) (.int told_coins) (.ref a_told_house) (.ref a_told_free) (.ref a_told_stuffed) (.ref a_told_after) (.ref a_told_weight) (.ref a_told_need)), (a_told_after, .inl (cI, 6, .inl told_after)), (a_told_need, .inl (cI, 5, .inl told_need)), (oX2 a_laws (.int laws_size) (.int laws_holds) (.ref a_laws_codes) (.ref a_laws_lengths) (.ref a_laws_letters) (.ref a_laws_stack)), (a_laws_codes, .inl (cO, 4, .inr (.inr (.inr (.inr (rwF rw)))))), (a_laws_lengths, .inl (cI, 4, .inl laws_lengths)), (a_laws_letters, .inl (cI, 6, .inl o_laws_letters)), (a_laws_stack, .inl (cI, 241, .inl o_laws_stack)), ((rw 0), .inl (cI, 241, .inl laws_c0)), ((rw 1), .inl (cI, 241, .inl laws_c1)), ((rw 2), .inl (cI, 241, .inl laws_c2)), ((rw 3), .inl (cI, 241, .inl laws_c3)), (oX9 a_S (.ref a_S_cells) (.ref a_told) (.ref a_laws)), (a_S_cells, .inl (cI, 69, .inl o_S_cells))]) args s 0 0 A) (F0 m 0 ls []) := by
  obtain ⟨hx, hb, hml, hown, hts, hr, hlk⟩ := id C
  obtain ⟨hK, hX, hA⟩ := id K
  unfold b_X9_meet_0 at hf
  refine lv_aload_n hx hb dX9_meet_0 rfl (lv_at hl 0 rfl) ?_
  refine va_get (ci := 9) (v := .ref a_S_cells) (C := RX9) (T := TX9) (N := 3) hx hb hts in_X9_meet_X9 hown hK hw.1 12 rfl rfl 0 (by decide) (hts _ lk_X9_meet_0) (fun _ h9 => h9) rfl dX9_meet_1 ?_
  refine lv_iload_n hx hb dX9_meet_4 rfl (lv_at hl 1 rfl) ?_
  refine lv_iload_n hx hb dX9_meet_5 rfl (lv_at hl 2 rfl) ?_
  obtain ⟨r_1, hg_2, hf⟩ := ob1_some hf
  refine cl_SiA (As := [.int v1, .int v2]) (rest := [.ref a_S_cells]) C K hw (k_X9_placeOf r_1 v1 v2 hg_2) [] rfl (by decide) rfl rfl ⟨callB_of 2 hts (fun w h => gX9_meet_X9_placeOf w (List.mem_append_right _ h)) rfl rfl rfl (hts _ lk_X9_meet_1) (hts _ lk_X9_meet_2) (by decide +kernel) ⟨Nat.le_of_ble_eq_true rfl, Nat.le_of_ble_eq_true rfl⟩, hts _ lk_X9_meet_3⟩ rfl hl rfl (Nat.le_of_ble_eq_true rfl) dX9_meet_6 ⟨Nat.zero_le _, Nat.zero_le _⟩ (fun H locs hw => ?_)
  have hw : Wo D A s [(oX5 a_told (.int told_gloves) (.int told_matters) (.int told_pride) (.int told_coins) (.ref a_told_house) (.ref a_told_free) (.ref a_told_stuffed) (.ref a_told_after) (.ref a_told_weight) (.ref a_told_need)), (a_told_after, .inl (cI, 6, .inl told_after)), (a_told_need, .inl (cI, 5, .inl told_need)), (oX2 a_laws (.int laws_size) (.int laws_holds) (.ref a_laws_codes) (.ref a_laws_lengths) (.ref a_laws_letters) (.ref a_laws_stack)), (a_laws_codes, .inl (cO, 4, .inr (.inr (.inr (.inr (rwF rw)))))), (a_laws_lengths, .inl (cI, 4, .inl laws_lengths)), (a_laws_letters, .inl (cI, 6, .inl laws_letters)), (a_laws_stack, .inl (cI, 241, .inl laws_stack)), ((rw 0), .inl (cI, 241, .inl laws_c0)), ((rw 1), .inl (cI, 241, .inl laws_c1)), ((rw 2), .inl (cI, 241, .inl laws_c2)), ((rw 3), .inl (cI, 241, .inl laws_c3)), (oX9 a_S (.ref a_S_cells) (.ref a_told) (.ref a_laws)), (a_S_cells, .inl (cI, 69, .inl S_cells))] H locs := hw
  refine lv_aload_n hx hb dX9_meet_9 rfl (lv_at hl 0 rfl) ?_
  refine lv_iload_n hx hb dX9_meet_10 rfl (lv_at hl 1 rfl) ?_
  refine lv_iload_n hx hb dX9_meet_11 rfl (lv_at hl 2 rfl) ?_
  refine lv_aload_n hx hb dX9_meet_12 rfl (lv_at hl 0 rfl) ?_
  refine lv_iload_n hx hb dX9_meet_13 rfl (lv_at hl 1 rfl) ?_
  refine lv_iload_n hx hb dX9_meet_14 rfl (lv_at hl 2 rfl) ?_
  obtain ⟨r_3, hg_4, hf⟩ := ob1_some hf
  refine cl_ViA (As := [.int v1, .int v2]) (rest := [.int v2, .int v1, .ref a_S, .int r_1, .ref a_S_cells]) C K hw (k_X9_warmthOf a_S a_S_cells a_told a_laws S_cells r_3 v1 v2 hg_4) [12, 13] rfl (by decide) rfl rfl (ci := 9) (j := 12) rfl rfl (cwV 2 hts gX9_meet_X9_warmthOf rfl rfl rfl (by decide +kernel) ⟨Nat.le_of_ble_eq_true rfl, Nat.le_of_ble_eq_true rfl⟩) rfl hl rfl (Nat.le_of_ble_eq_true rfl) dX9_meet_15 ⟨Nat.zero_le _, Nat.zero_le _⟩ (fun H locs hw => ?_)
  have hw : Wo D A s [(oX5 a_told (.int told_gloves) (.int told_matters) (.int told_pride) (.int told_coins) (.ref a_told_house) (.ref a_told_free) (.ref a_told_stuffed) (.ref a_told_after) (.ref a_told_weight) (.ref a_told_need)), (a_told_after, .inl (cI, 6, .inl told_after)), (a_told_need, .inl (cI, 5, .inl told_need)), (oX2 a_laws (.int laws_size) (.int laws_holds) (.ref a_laws_codes) (.ref a_laws_lengths) (.ref a_laws_letters) (.ref a_laws_stack)), (a_laws_codes, .inl (cO, 4, .inr (.inr (.inr (.inr (rwF rw)))))), (a_laws_lengths, .inl (cI, 4, .inl laws_lengths)), (a_laws_letters, .inl (cI, 6, .inl laws_letters)), (a_laws_stack, .inl (cI, 241, .inl laws_stack)), ((rw 0), .inl (cI, 241, .inl laws_c0)), ((rw 1), .inl (cI, 241, .inl laws_c1)), ((rw 2), .inl (cI, 241, .inl laws_c2)), ((rw 3), .inl (cI, 241, .inl laws_c3)), (oX9 a_S (.ref a_S_cells) (.ref a_told) (.ref a_laws)), (a_S_cells, .inl (cI, 69, .inl S_cells))] H locs := hw
  refine lv_iconst (v := (0 : Int32)) hx hb dX9_meet_18 (by decide) ?_
  obtain ⟨r_5, laws_letters_6, laws_stack_7, hg_8, hf⟩ := ob3_some hf
  refine cl_ViA (As := [.int v1, .int v2, .int r_3, .int (0 : Int32)]) (rest := [.int r_1, .ref a_S_cells]) C K hw (k_X9_warmer a_told a_told_house a_told_free a_told_stuffed a_told_after a_told_weight a_told_need a_laws a_laws_codes a_laws_lengths a_laws_letters a_laws_stack a_S a_S_cells rw told_gloves told_matters told_pride told_coins told_after laws_size laws_holds laws_lengths laws_c0 laws_c1 laws_c2 laws_c3 S_cells r_5 laws_letters_6 laws_stack_7 laws_letters laws_stack v1 v2 r_3 (0 : Int32) hg_8) [0, 1, 3, 4, 5, 6, 7, 8, 9, 10, 11, 12, 13] rfl (by decide) rfl rfl (ci := 9) (j := 12) rfl rfl (cwV 4 hts gX9_meet_X9_warmer rfl rfl rfl (by decide +kernel) ⟨Nat.le_of_ble_eq_true rfl, Nat.le_of_ble_eq_true rfl⟩) rfl hl rfl (Nat.le_of_ble_eq_true rfl) dX9_meet_19 ⟨Nat.zero_le _, Nat.zero_le _⟩ (fun H locs hw => ?_)
  have hw : Wo D A s [(oX5 a_told (.int told_gloves) (.int told_matters) (.int told_pride) (.int told_coins) (.ref a_told_house) (.ref a_told_free) (.ref a_told_stuffed) (.ref a_told_after) (.ref a_told_weight) (.ref a_told_need)), (a_told_after, .inl (cI, 6, .inl told_after)), (a_told_need, .inl (cI, 5, .inl told_need)), (oX2 a_laws (.int laws_size) (.int laws_holds) (.ref a_laws_codes) (.ref a_laws_lengths) (.ref a_laws_letters) (.ref a_laws_stack)), (a_laws_codes, .inl (cO, 4, .inr (.inr (.inr (.inr (rwF rw)))))), (a_laws_lengths, .inl (cI, 4, .inl laws_lengths)), (a_laws_letters, .inl (cI, 6, .inl laws_letters_6)), (a_laws_stack, .inl (cI, 241, .inl laws_stack_7)), ((rw 0), .inl (cI, 241, .inl laws_c0)), ((rw 1), .inl (cI, 241, .inl laws_c1)), ((rw 2), .inl (cI, 241, .inl laws_c2)), ((rw 3), .inl (cI, 241, .inl laws_c3)), (oX9 a_S (.ref a_S_cells) (.ref a_told) (.ref a_laws)), (a_S_cells, .inl (cI, 69, .inl S_cells))] H locs := hw
  obtain ⟨hc_9, hf⟩ := gd_some hf
  obtain ⟨S_cells_10, e_S_cells_10, hf⟩ := bnd_some hf
  refine va_iast hx hb hK hw.1 hw.2.1 hw.2.2 13 0 rfl rfl (inB_in hc_9) dX9_meet_22 (fun H locs hP hD hS => ?_)
  have hw : Wo D A s [(oX5 a_told (.int told_gloves) (.int told_matters) (.int told_pride) (.int told_coins) (.ref a_told_house) (.ref a_told_free) (.ref a_told_stuffed) (.ref a_told_after) (.ref a_told_weight) (.ref a_told_need)), (a_told_after, .inl (cI, 6, .inl told_after)), (a_told_need, .inl (cI, 5, .inl told_need)), (oX2 a_laws (.int laws_size) (.int laws_holds) (.ref a_laws_codes) (.ref a_laws_lengths) (.ref a_laws_letters) (.ref a_laws_stack)), (a_laws_codes, .inl (cO, 4, .inr (.inr (.inr (.inr (rwF rw)))))), (a_laws_lengths, .inl (cI, 4, .inl laws_lengths)), (a_laws_letters, .inl (cI, 6, .inl laws_letters_6)), (a_laws_stack, .inl (cI, 241, .inl laws_stack_7)), ((rw 0), .inl (cI, 241, .inl laws_c0)), ((rw 1), .inl (cI, 241, .inl laws_c1)), ((rw 2), .inl (cI, 241, .inl laws_c2)), ((rw 3), .inl (cI, 241, .inl laws_c3)), (oX9 a_S (.ref a_S_cells) (.ref a_told) (.ref a_laws)), (a_S_cells, .inl (cI, 69, .inl S_cells_10))] H locs := by rw [e_S_cells_10]; exact ⟨hP, hD, hS⟩
  refine lv_aload_n hx hb dX9_meet_23 rfl (lv_at hl 0 rfl) ?_
  refine lv_iload_n hx hb dX9_meet_24 rfl (lv_at hl 1 rfl) ?_
  obtain ⟨r_11, hg_12, hf⟩ := ob1_some hf
  refine cl_ViA (As := [.int v1]) (rest := []) C K hw (k_X9_knows a_S a_S_cells a_told a_laws S_cells_10 r_11 v1 hg_12) [12, 13] rfl (by decide) rfl rfl (ci := 9) (j := 12) rfl rfl (cwV 1 hts gX9_meet_X9_knows rfl rfl rfl (by decide +kernel) ⟨Nat.le_of_ble_eq_true rfl, Nat.le_of_ble_eq_true rfl⟩) rfl hl rfl (Nat.le_of_ble_eq_true rfl) dX9_meet_25 ⟨Nat.zero_le _, Nat.zero_le _⟩ (fun H locs hw => ?_)
  have hw : Wo D A s [(oX5 a_told (.int told_gloves) (.int told_matters) (.int told_pride) (.int told_coins) (.ref a_told_house) (.ref a_told_free) (.ref a_told_stuffed) (.ref a_told_after) (.ref a_told_weight) (.ref a_told_need)), (a_told_after, .inl (cI, 6, .inl told_after)), (a_told_need, .inl (cI, 5, .inl told_need)), (oX2 a_laws (.int laws_size) (.int laws_holds) (.ref a_laws_codes) (.ref a_laws_lengths) (.ref a_laws_letters) (.ref a_laws_stack)), (a_laws_codes, .inl (cO, 4, .inr (.inr (.inr (.inr (rwF rw)))))), (a_laws_lengths, .inl (cI, 4, .inl laws_lengths)), (a_laws_letters, .inl (cI, 6, .inl laws_letters_6)), (a_laws_stack, .inl (cI, 241, .inl laws_stack_7)), ((rw 0), .inl (cI, 241, .inl laws_c0)), ((rw 1), .inl (cI, 241, .inl laws_c1)), ((rw 2), .inl (cI, 241, .inl laws_c2)), ((rw 3), .inl (cI, 241, .inl laws_c3)), (oX9 a_S (.ref a_S_cells) (.ref a_told) (.ref a_laws)), (a_S_cells, .inl (cI, 69, .inl S_cells_10))] H locs := hw
  refine lv_aload_n hx hb dX9_meet_28 rfl (lv_at hl 0 rfl) ?_
  refine lv_iload_n hx hb dX9_meet_29 rfl (lv_at hl 2 rfl) ?_
  obtain ⟨r_13, hg_14, hf⟩ := ob1_some hf
  refine cl_ViA (As := [.int v2]) (rest := [.int r_11]) C K hw (k_X9_knows a_S a_S_cells a_told a_laws S_cells_10 r_13 v2 hg_14) [12, 13] rfl (by decide) rfl rfl (ci := 9) (j := 12) rfl rfl (cwV 1 hts gX9_meet_X9_knows rfl rfl rfl (by decide +kernel) ⟨Nat.le_of_ble_eq_true rfl, Nat.le_of_ble_eq_true rfl⟩) rfl hl rfl (Nat.le_of_ble_eq_true rfl) dX9_meet_30 ⟨Nat.zero_le _, Nat.zero_le _⟩ (fun H locs hw => ?_)
  have hw : Wo D A s [(oX5 a_told (.int told_gloves) (.int told_matters) (.int told_pride) (.int told_coins) (.ref a_told_house) (.ref a_told_free) (.ref a_told_stuffed) (.ref a_told_after) (.ref a_told_weight) (.ref a_told_need)), (a_told_after, .inl (cI, 6, .inl told_after)), (a_told_need, .inl (cI, 5, .inl told_need)), (oX2 a_laws (.int laws_size) (.int laws_holds) (.ref a_laws_codes) (.ref a_laws_lengths) (.ref a_laws_letters) (.ref a_laws_stack)), (a_laws_codes, .inl (cO, 4, .inr (.inr (.inr (.inr (rwF rw)))))), (a_laws_lengths, .inl (cI, 4, .inl laws_lengths)), (a_laws_letters, .inl (cI, 6, .inl laws_letters_6)), (a_laws_stack, .inl (cI, 241, .inl laws_stack_7)), ((rw 0), .inl (cI, 241, .inl laws_c0)), ((rw 1), .inl (cI, 241, .inl laws_c1)), ((rw 2), .inl (cI, 241, .inl laws_c2)), ((rw 3), .inl (cI, 241, .inl laws_c3)), (oX9 a_S (.ref a_S_cells) (.ref a_told) (.ref a_laws)), (a_S_cells, .inl (cI, 69, .inl S_cells_10))] H locs := hw
  refine lv_ior hx hb dX9_meet_33 ?_
  obtain ⟨v3_15, e_v3_15, hf⟩ := bnd_some hf
  refine lv_nmi e_v3_15 ?_
  refine lv_istore_n (lv' := [(3, .int v3_15), (0, .ref a_S), (1, .int v1), (2, .int v2)]) hx hb dX9_meet_34 rfl hl (by decide) rfl (fun ls hl => ?_)
  refine lv_aload_n hx hb dX9_meet_35 rfl (lv_at hl 1 rfl) ?_
  refine va_get (ci := 9) (v := .ref a_S_cells) (C := RX9) (T := TX9) (N := 3) hx hb hts in_X9_meet_X9 hown hK hw.1 12 rfl rfl 0 (by decide) (hts _ lk_X9_meet_0) (fun _ h9 => h9) rfl dX9_meet_36 ?_
  refine lv_bipush (v := (48 : Int32)) hx hb dX9_meet_39 (by decide) ?_
  refine lv_iload_n hx hb dX9_meet_41 rfl (lv_at hl 2 rfl) ?_
  refine lv_iadd hx hb dX9_meet_42 ?_
  refine lv_iload_n hx hb dX9_meet_43 rfl (lv_at hl 0 rfl) ?_
  obtain ⟨hc_16, hf⟩ := gd_some hf
  obtain ⟨S_cells_17, e_S_cells_17, hf⟩ := bnd_some hf
  refine va_iast hx hb hK hw.1 hw.2.1 hw.2.2 13 0 rfl rfl (inB_in hc_16) dX9_meet_44 (fun H locs hP hD hS => ?_)
  have hw : Wo D A s [(oX5 a_told (.int told_gloves) (.int told_matters) (.int told_pride) (.int told_coins) (.ref a_told_house) (.ref a_told_free) (.ref a_told_stuffed) (.ref a_told_after) (.ref a_told_weight) (.ref a_told_need)), (a_told_after, .inl (cI, 6, .inl told_after)), (a_told_need, .inl (cI, 5, .inl told_need)), (oX2 a_laws (.int laws_size) (.int laws_holds) (.ref a_laws_codes) (.ref a_laws_lengths) (.ref a_laws_letters) (.ref a_laws_stack)), (a_laws_codes, .inl (cO, 4, .inr (.inr (.inr (.inr (rwF rw)))))), (a_laws_lengths, .inl (cI, 4, .inl laws_lengths)), (a_laws_letters, .inl (cI, 6, .inl laws_letters_6)), (a_laws_stack, .inl (cI, 241, .inl laws_stack_7)), ((rw 0), .inl (cI, 241, .inl laws_c0)), ((rw 1), .inl (cI, 241, .inl laws_c1)), ((rw 2), .inl (cI, 241, .inl laws_c2)), ((rw 3), .inl (cI, 241, .inl laws_c3)), (oX9 a_S (.ref a_S_cells) (.ref a_told) (.ref a_laws)), (a_S_cells, .inl (cI, 69, .inl S_cells_17))] H locs := by rw [e_S_cells_17]; exact ⟨hP, hD, hS⟩
  refine lv_aload_n hx hb dX9_meet_45 rfl (lv_at hl 1 rfl) ?_
  refine va_get (ci := 9) (v := .ref a_S_cells) (C := RX9) (T := TX9) (N := 3) hx hb hts in_X9_meet_X9 hown hK hw.1 12 rfl rfl 0 (by decide) (hts _ lk_X9_meet_0) (fun _ h9 => h9) rfl dX9_meet_46 ?_
  refine lv_bipush (v := (48 : Int32)) hx hb dX9_meet_49 (by decide) ?_
  refine lv_iload_n hx hb dX9_meet_51 rfl (lv_at hl 3 rfl) ?_
  refine lv_iadd hx hb dX9_meet_52 ?_
  refine lv_iload_n hx hb dX9_meet_53 rfl (lv_at hl 0 rfl) ?_
  obtain ⟨hc_18, hf⟩ := gd_some hf
  obtain ⟨S_cells_19, e_S_cells_19, hf⟩ := bnd_some hf
  refine va_iast hx hb hK hw.1 hw.2.1 hw.2.2 13 0 rfl rfl (inB_in hc_18) dX9_meet_54 (fun H locs hP hD hS => ?_)
  have hw : Wo D A s [(oX5 a_told (.int told_gloves) (.int told_matters) (.int told_pride) (.int told_coins) (.ref a_told_house) (.ref a_told_free) (.ref a_told_stuffed) (.ref a_told_after) (.ref a_told_weight) (.ref a_told_need)), (a_told_after, .inl (cI, 6, .inl told_after)), (a_told_need, .inl (cI, 5, .inl told_need)), (oX2 a_laws (.int laws_size) (.int laws_holds) (.ref a_laws_codes) (.ref a_laws_lengths) (.ref a_laws_letters) (.ref a_laws_stack)), (a_laws_codes, .inl (cO, 4, .inr (.inr (.inr (.inr (rwF rw)))))), (a_laws_lengths, .inl (cI, 4, .inl laws_lengths)), (a_laws_letters, .inl (cI, 6, .inl laws_letters_6)), (a_laws_stack, .inl (cI, 241, .inl laws_stack_7)), ((rw 0), .inl (cI, 241, .inl laws_c0)), ((rw 1), .inl (cI, 241, .inl laws_c1)), ((rw 2), .inl (cI, 241, .inl laws_c2)), ((rw 3), .inl (cI, 241, .inl laws_c3)), (oX9 a_S (.ref a_S_cells) (.ref a_told) (.ref a_laws)), (a_S_cells, .inl (cI, 69, .inl S_cells_19))] H locs := by rw [e_S_cells_19]; exact ⟨hP, hD, hS⟩
  refine lv_aload_n hx hb dX9_meet_55 rfl (lv_at hl 1 rfl) ?_
  refine va_get (ci := 9) (v := .ref a_S_cells) (C := RX9) (T := TX9) (N := 3) hx hb hts in_X9_meet_X9 hown hK hw.1 12 rfl rfl 0 (by decide) (hts _ lk_X9_meet_0) (fun _ h9 => h9) rfl dX9_meet_56 ?_
  refine lv_bipush (v := (54 : Int32)) hx hb dX9_meet_59 (by decide) ?_
  refine lv_iload_n hx hb dX9_meet_61 rfl (lv_at hl 2 rfl) ?_
  refine lv_iadd hx hb dX9_meet_62 ?_
  refine lv_iload_n hx hb dX9_meet_63 rfl (lv_at hl 3 rfl) ?_
  obtain ⟨hc_20, hf⟩ := gd_some hf
  obtain ⟨S_cells_21, e_S_cells_21, hf⟩ := bnd_some hf
  refine va_iast hx hb hK hw.1 hw.2.1 hw.2.2 13 0 rfl rfl (inB_in hc_20) dX9_meet_64 (fun H locs hP hD hS => ?_)
  have hw : Wo D A s [(oX5 a_told (.int told_gloves) (.int told_matters) (.int told_pride) (.int told_coins) (.ref a_told_house) (.ref a_told_free) (.ref a_told_stuffed) (.ref a_told_after) (.ref a_told_weight) (.ref a_told_need)), (a_told_after, .inl (cI, 6, .inl told_after)), (a_told_need, .inl (cI, 5, .inl told_need)), (oX2 a_laws (.int laws_size) (.int laws_holds) (.ref a_laws_codes) (.ref a_laws_lengths) (.ref a_laws_letters) (.ref a_laws_stack)), (a_laws_codes, .inl (cO, 4, .inr (.inr (.inr (.inr (rwF rw)))))), (a_laws_lengths, .inl (cI, 4, .inl laws_lengths)), (a_laws_letters, .inl (cI, 6, .inl laws_letters_6)), (a_laws_stack, .inl (cI, 241, .inl laws_stack_7)), ((rw 0), .inl (cI, 241, .inl laws_c0)), ((rw 1), .inl (cI, 241, .inl laws_c1)), ((rw 2), .inl (cI, 241, .inl laws_c2)), ((rw 3), .inl (cI, 241, .inl laws_c3)), (oX9 a_S (.ref a_S_cells) (.ref a_told) (.ref a_laws)), (a_S_cells, .inl (cI, 69, .inl S_cells_21))] H locs := by rw [e_S_cells_21]; exact ⟨hP, hD, hS⟩
  refine lv_aload_n hx hb dX9_meet_65 rfl (lv_at hl 1 rfl) ?_
  refine va_get (ci := 9) (v := .ref a_S_cells) (C := RX9) (T := TX9) (N := 3) hx hb hts in_X9_meet_X9 hown hK hw.1 12 rfl rfl 0 (by decide) (hts _ lk_X9_meet_0) (fun _ h9 => h9) rfl dX9_meet_66 ?_
  refine lv_bipush (v := (54 : Int32)) hx hb dX9_meet_69 (by decide) ?_
  refine lv_iload_n hx hb dX9_meet_71 rfl (lv_at hl 3 rfl) ?_
  refine lv_iadd hx hb dX9_meet_72 ?_
  refine lv_iload_n hx hb dX9_meet_73 rfl (lv_at hl 2 rfl) ?_
  obtain ⟨hc_22, hf⟩ := gd_some hf
  obtain ⟨S_cells_23, e_S_cells_23, hf⟩ := bnd_some hf
  refine va_iast hx hb hK hw.1 hw.2.1 hw.2.2 13 0 rfl rfl (inB_in hc_22) dX9_meet_74 (fun H locs hP hD hS => ?_)
  have hw : Wo D A s [(oX5 a_told (.int told_gloves) (.int told_matters) (.int told_pride) (.int told_coins) (.ref a_told_house) (.ref a_told_free) (.ref a_told_stuffed) (.ref a_told_after) (.ref a_told_weight) (.ref a_told_need)), (a_told_after, .inl (cI, 6, .inl told_after)), (a_told_need, .inl (cI, 5, .inl told_need)), (oX2 a_laws (.int laws_size) (.int laws_holds) (.ref a_laws_codes) (.ref a_laws_lengths) (.ref a_laws_letters) (.ref a_laws_stack)), (a_laws_codes, .inl (cO, 4, .inr (.inr (.inr (.inr (rwF rw)))))), (a_laws_lengths, .inl (cI, 4, .inl laws_lengths)), (a_laws_letters, .inl (cI, 6, .inl laws_letters_6)), (a_laws_stack, .inl (cI, 241, .inl laws_stack_7)), ((rw 0), .inl (cI, 241, .inl laws_c0)), ((rw 1), .inl (cI, 241, .inl laws_c1)), ((rw 2), .inl (cI, 241, .inl laws_c2)), ((rw 3), .inl (cI, 241, .inl laws_c3)), (oX9 a_S (.ref a_S_cells) (.ref a_told) (.ref a_laws)), (a_S_cells, .inl (cI, 69, .inl S_cells_23))] H locs := by rw [e_S_cells_23]; exact ⟨hP, hD, hS⟩
  refine lv_aload_n hx hb dX9_meet_75 rfl (lv_at hl 1 rfl) ?_
  refine lv_iload_n hx hb dX9_meet_76 rfl (lv_at hl 2 rfl) ?_
  refine lv_iload_n hx hb dX9_meet_77 rfl (lv_at hl 3 rfl) ?_
  obtain ⟨S_cells_24, hg_25, hf⟩ := ob1_some hf
  refine cl_VvA (As := [.int v1, .int v2]) (rest := []) C K hw (k_X9_signLowest a_told a_told_house a_told_free a_told_stuffed a_told_after a_told_weight a_told_need a_S a_S_cells a_laws told_gloves told_matters told_pride told_coins told_need S_cells_24 S_cells_23 v1 v2 hg_25) [0, 2, 12, 13] rfl (by decide) rfl rfl (ci := 9) (j := 12) rfl rfl (cwV 2 hts gX9_meet_X9_signLowest rfl rfl rfl (by decide +kernel) ⟨Nat.le_of_ble_eq_true rfl, Nat.le_of_ble_eq_true rfl⟩) rfl hl rfl (Nat.le_of_ble_eq_true rfl) dX9_meet_78 ⟨Nat.zero_le _, Nat.zero_le _⟩ (fun H locs hw => ?_)
  have hw : Wo D A s [(oX5 a_told (.int told_gloves) (.int told_matters) (.int told_pride) (.int told_coins) (.ref a_told_house) (.ref a_told_free) (.ref a_told_stuffed) (.ref a_told_after) (.ref a_told_weight) (.ref a_told_need)), (a_told_after, .inl (cI, 6, .inl told_after)), (a_told_need, .inl (cI, 5, .inl told_need)), (oX2 a_laws (.int laws_size) (.int laws_holds) (.ref a_laws_codes) (.ref a_laws_lengths) (.ref a_laws_letters) (.ref a_laws_stack)), (a_laws_codes, .inl (cO, 4, .inr (.inr (.inr (.inr (rwF rw)))))), (a_laws_lengths, .inl (cI, 4, .inl laws_lengths)), (a_laws_letters, .inl (cI, 6, .inl laws_letters_6)), (a_laws_stack, .inl (cI, 241, .inl laws_stack_7)), ((rw 0), .inl (cI, 241, .inl laws_c0)), ((rw 1), .inl (cI, 241, .inl laws_c1)), ((rw 2), .inl (cI, 241, .inl laws_c2)), ((rw 3), .inl (cI, 241, .inl laws_c3)), (oX9 a_S (.ref a_S_cells) (.ref a_told) (.ref a_laws)), (a_S_cells, .inl (cI, 69, .inl S_cells_24))] H locs := hw
  cases hf
  exact retV C hw dX9_meet_81
set_option maxHeartbeats 4000000 in
set_option maxRecDepth 100000 in
theorem k_X9_meet {l : Launch} {sx : List sx_T} {D : va_G} {cI cZ cO : ClassId} (a_told : Nat) (a_told_house : Nat) (a_told_free : Nat) (a_told_stuffed : Nat) (a_told_after : Nat) (a_told_weight : Nat) (a_told_need : Nat) (a_laws : Nat) (a_laws_codes : Nat) (a_laws_lengths : Nat) (a_laws_letters : Nat) (a_laws_stack : Nat) (a_S : Nat) (a_S_cells : Nat) (rw : Nat → Nat) (told_gloves : Int32) (told_matters : Int32) (told_pride : Int32) (told_coins : Int32) (told_after : Nat → Int32) (told_need : Nat → Int32) (laws_size : Int32) (laws_holds : Int32) (laws_lengths : Nat → Int32) (laws_c0 : Nat → Int32) (laws_c1 : Nat → Int32) (laws_c2 : Nat → Int32) (laws_c3 : Nat → Int32) (o_laws_letters : Nat → Int32) (o_laws_stack : Nat → Int32) (o_S_cells : Nat → Int32) (laws_letters : Nat → Int32) (laws_stack : Nat → Int32) (S_cells : Nat → Int32) (p1 : Int32) (p2 : Int32) (hF : f_X9_meet told_matters told_after told_need laws_holds laws_lengths laws_c0 laws_c1 laws_c2 laws_c3 laws_letters laws_stack S_cells p1 p2 = some (o_laws_letters, o_laws_stack, o_S_cells)) : CtV l yX9_meet wsX9_meet rm_X9_meet sx D (tyL cI cZ cO) [.ref a_S, .int p1, .int p2] [(oX5 a_told (.int told_gloves) (.int told_matters) (.int told_pride) (.int told_coins) (.ref a_told_house) (.ref a_told_free) (.ref a_told_stuffed) (.ref a_told_after) (.ref a_told_weight) (.ref a_told_need)), (a_told_after, .inl (cI, 6, .inl told_after)), (a_told_need, .inl (cI, 5, .inl told_need)), (oX2 a_laws (.int laws_size) (.int laws_holds) (.ref a_laws_codes) (.ref a_laws_lengths) (.ref a_laws_letters) (.ref a_laws_stack)), (a_laws_codes, .inl (cO, 4, .inr (.inr (.inr (.inr (rwF rw)))))), (a_laws_lengths, .inl (cI, 4, .inl laws_lengths)), (a_laws_letters, .inl (cI, 6, .inl laws_letters)), (a_laws_stack, .inl (cI, 241, .inl laws_stack)), ((rw 0), .inl (cI, 241, .inl laws_c0)), ((rw 1), .inl (cI, 241, .inl laws_c1)), ((rw 2), .inl (cI, 241, .inl laws_c2)), ((rw 3), .inl (cI, 241, .inl laws_c3)), (oX9 a_S (.ref a_S_cells) (.ref a_told) (.ref a_laws)), (a_S_cells, .inl (cI, 69, .inl S_cells))] [(oX5 a_told (.int told_gloves) (.int told_matters) (.int told_pride) (.int told_coins) (.ref a_told_house) (.ref a_told_free) (.ref a_told_stuffed) (.ref a_told_after) (.ref a_told_weight) (.ref a_told_need)), (a_told_after, .inl (cI, 6, .inl told_after)), (a_told_need, .inl (cI, 5, .inl told_need)), (oX2 a_laws (.int laws_size) (.int laws_holds) (.ref a_laws_codes) (.ref a_laws_lengths) (.ref a_laws_letters) (.ref a_laws_stack)), (a_laws_codes, .inl (cO, 4, .inr (.inr (.inr (.inr (rwF rw)))))), (a_laws_lengths, .inl (cI, 4, .inl laws_lengths)), (a_laws_letters, .inl (cI, 6, .inl o_laws_letters)), (a_laws_stack, .inl (cI, 241, .inl o_laws_stack)), ((rw 0), .inl (cI, 241, .inl laws_c0)), ((rw 1), .inl (cI, 241, .inl laws_c1)), ((rw 2), .inl (cI, 241, .inl laws_c2)), ((rw 3), .inl (cI, 241, .inl laws_c3)), (oX9 a_S (.ref a_S_cells) (.ref a_told) (.ref a_laws)), (a_S_cells, .inl (cI, 69, .inl o_S_cells))] := by
  refine ctV_of (cc := cX9_meet) (ret := none) (maxL := 4) (by decide) rfl (Nat.le_of_ble_eq_true rfl) ?_
  intro p e s m below meth c A ls C K hw hl
  exact q_X9_meet_0 C K a_told a_told_house a_told_free a_told_stuffed a_told_after a_told_weight a_told_need a_laws a_laws_codes a_laws_lengths a_laws_letters a_laws_stack a_S a_S_cells rw told_gloves told_matters told_pride told_coins told_after told_need laws_size laws_holds laws_lengths laws_c0 laws_c1 laws_c2 laws_c3 o_laws_letters o_laws_stack o_S_cells laws_letters laws_stack S_cells p1 p2 hF hw (lv_sub hl [0, 1, 2] rfl)
abbrev rm_X9_setFree : Room := { frames := 0, cells := 0, slots := 0, locals := 0 }
theorem in_X9_setFree_X9 : ∀ w ∈ u_ws RX9 TX9 3, w ∈ wsX9_setFree := fun w h => List.mem_cons_of_mem _ (bi_wsX90 w h)
theorem lk_X9_setFree_0 : Cond.fieldLink RX9 11 "GloveHouses$State" "cells" "[I" ∈ wsX9_setFree := List.mem_cons_of_mem _ (bi_wsL_law0_r5 _ (List.mem_of_getElem? (i := 11) rfl))
set_option maxHeartbeats 4000000 in
set_option maxRecDepth 100000 in
theorem q_X9_setFree_0 {p : Program} {l : Launch} {e : Env} {s : State} {m : MethodId} {args : Array Value} {below : List Frame} {meth : Method} {c : Code} {sx : List sx_T} {D : va_G} {cI cZ cO : ClassId} {A : Nat → Prop} (C : Cx p s m args meth c RX9 wsX9_setFree cX9_setFree 3 none) (K : Kx sx D (tyL cI cZ cO) A s) (a_S : Nat) (a_S_cells : Nat) (a_told : Nat) (a_laws : Nat) (o_S_cells : Nat → Int32)    (S_cells : Nat → Int32) (v1 : Int32) (v2 : Int32) {H : Heap} {locs : List Loc} {ls : Array Slot} (hf : b_X9_setFree_0   S_cells v1 v2 = some o_S_cells) (hw : Wo D A s [(oX9 a_S (.ref a_S_cells) (.ref a_told) (.ref a_laws)), (a_S_cells, .inl (cI, 69, .inl S_cells))] H locs) (hl : lv_has ls 3 [(0, .ref a_S), (1, .int v1), (2, .int v2)]) : W p l e rm_X9_setFree s m args below meth c H locs 0 0 (MQ below (QcV D A [(oX9 a_S (.ref a_S_cells) (.ref a_told) (.ref a_laws)), (a_S_cells, .inl (cI, 69, .inl o_S_cells))]) args s 0 0 A) (F0 m 0 ls []) := by
  obtain ⟨hx, hb, hml, hown, hts, hr, hlk⟩ := id C
  obtain ⟨hK, hX, hA⟩ := id K
  unfold b_X9_setFree_0 at hf
  refine lv_aload_n hx hb dX9_setFree_0 rfl (lv_at hl 0 rfl) ?_
  refine va_get (ci := 9) (v := .ref a_S_cells) (C := RX9) (T := TX9) (N := 3) hx hb hts in_X9_setFree_X9 hown hK hw.1 0 rfl rfl 0 (by decide) (hts _ lk_X9_setFree_0) (fun _ h9 => h9) rfl dX9_setFree_1 ?_
  refine lv_bipush (v := (36 : Int32)) hx hb dX9_setFree_4 (by decide) ?_
  refine lv_iload_n hx hb dX9_setFree_6 rfl (lv_at hl 1 rfl) ?_
  refine lv_iadd hx hb dX9_setFree_7 ?_
  refine lv_iload_n hx hb dX9_setFree_8 rfl (lv_at hl 2 rfl) ?_
  obtain ⟨hc_1, hf⟩ := gd_some hf
  obtain ⟨S_cells_2, e_S_cells_2, hf⟩ := bnd_some hf
  refine va_iast hx hb hK hw.1 hw.2.1 hw.2.2 1 0 rfl rfl (inB_in hc_1) dX9_setFree_9 (fun H locs hP hD hS => ?_)
  have hw : Wo D A s [(oX9 a_S (.ref a_S_cells) (.ref a_told) (.ref a_laws)), (a_S_cells, .inl (cI, 69, .inl S_cells_2))] H locs := by rw [e_S_cells_2]; exact ⟨hP, hD, hS⟩
  cases hf
  exact retV C hw dX9_setFree_10
set_option maxHeartbeats 4000000 in
set_option maxRecDepth 100000 in
theorem k_X9_setFree {l : Launch} {sx : List sx_T} {D : va_G} {cI cZ cO : ClassId} (a_S : Nat) (a_S_cells : Nat) (a_told : Nat) (a_laws : Nat) (o_S_cells : Nat → Int32) (S_cells : Nat → Int32) (p1 : Int32) (p2 : Int32) (hF : f_X9_setFree S_cells p1 p2 = some o_S_cells) : CtV l yX9_setFree wsX9_setFree rm_X9_setFree sx D (tyL cI cZ cO) [.ref a_S, .int p1, .int p2] [(oX9 a_S (.ref a_S_cells) (.ref a_told) (.ref a_laws)), (a_S_cells, .inl (cI, 69, .inl S_cells))] [(oX9 a_S (.ref a_S_cells) (.ref a_told) (.ref a_laws)), (a_S_cells, .inl (cI, 69, .inl o_S_cells))] := by
  refine ctV_of (cc := cX9_setFree) (ret := none) (maxL := 3) (by decide) rfl (Nat.le_of_ble_eq_true rfl) ?_
  intro p e s m below meth c A ls C K hw hl
  exact q_X9_setFree_0 C K a_S a_S_cells a_told a_laws o_S_cells S_cells p1 p2 hF hw (lv_sub hl [0, 1, 2] rfl)
abbrev rm_X9_setStuffed : Room := { frames := 0, cells := 0, slots := 0, locals := 0 }
theorem in_X9_setStuffed_X9 : ∀ w ∈ u_ws RX9 TX9 3, w ∈ wsX9_setStuffed := fun w h => List.mem_cons_of_mem _ (bi_wsX90 w h)
theorem lk_X9_setStuffed_0 : Cond.fieldLink RX9 11 "GloveHouses$State" "cells" "[I" ∈ wsX9_setStuffed := List.mem_cons_of_mem _ (bi_wsL_law0_r5 _ (List.mem_of_getElem? (i := 11) rfl))
set_option maxHeartbeats 4000000 in
set_option maxRecDepth 100000 in
theorem q_X9_setStuffed_0 {p : Program} {l : Launch} {e : Env} {s : State} {m : MethodId} {args : Array Value} {below : List Frame} {meth : Method} {c : Code} {sx : List sx_T} {D : va_G} {cI cZ cO : ClassId} {A : Nat → Prop} (C : Cx p s m args meth c RX9 wsX9_setStuffed cX9_setStuffed 3 none) (K : Kx sx D (tyL cI cZ cO) A s) (a_S : Nat) (a_S_cells : Nat) (a_told : Nat) (a_laws : Nat) (o_S_cells : Nat → Int32)    (S_cells : Nat → Int32) (v1 : Int32) (v2 : Int32) {H : Heap} {locs : List Loc} {ls : Array Slot} (hf : b_X9_setStuffed_0   S_cells v1 v2 = some o_S_cells) (hw : Wo D A s [(oX9 a_S (.ref a_S_cells) (.ref a_told) (.ref a_laws)), (a_S_cells, .inl (cI, 69, .inl S_cells))] H locs) (hl : lv_has ls 3 [(0, .ref a_S), (1, .int v1), (2, .int v2)]) : W p l e rm_X9_setStuffed s m args below meth c H locs 0 0 (MQ below (QcV D A [(oX9 a_S (.ref a_S_cells) (.ref a_told) (.ref a_laws)), (a_S_cells, .inl (cI, 69, .inl o_S_cells))]) args s 0 0 A) (F0 m 0 ls []) := by
  obtain ⟨hx, hb, hml, hown, hts, hr, hlk⟩ := id C
  obtain ⟨hK, hX, hA⟩ := id K
  unfold b_X9_setStuffed_0 at hf
  refine lv_aload_n hx hb dX9_setStuffed_0 rfl (lv_at hl 0 rfl) ?_
  refine va_get (ci := 9) (v := .ref a_S_cells) (C := RX9) (T := TX9) (N := 3) hx hb hts in_X9_setStuffed_X9 hown hK hw.1 0 rfl rfl 0 (by decide) (hts _ lk_X9_setStuffed_0) (fun _ h9 => h9) rfl dX9_setStuffed_1 ?_
  refine lv_bipush (v := (42 : Int32)) hx hb dX9_setStuffed_4 (by decide) ?_
  refine lv_iload_n hx hb dX9_setStuffed_6 rfl (lv_at hl 1 rfl) ?_
  refine lv_iadd hx hb dX9_setStuffed_7 ?_
  refine lv_iload_n hx hb dX9_setStuffed_8 rfl (lv_at hl 2 rfl) ?_
  obtain ⟨hc_1, hf⟩ := gd_some hf
  obtain ⟨S_cells_2, e_S_cells_2, hf⟩ := bnd_some hf
  refine va_iast hx hb hK hw.1 hw.2.1 hw.2.2 1 0 rfl rfl (inB_in hc_1) dX9_setStuffed_9 (fun H locs hP hD hS => ?_)
  have hw : Wo D A s [(oX9 a_S (.ref a_S_cells) (.ref a_told) (.ref a_laws)), (a_S_cells, .inl (cI, 69, .inl S_cells_2))] H locs := by rw [e_S_cells_2]; exact ⟨hP, hD, hS⟩
  cases hf
  exact retV C hw dX9_setStuffed_10
set_option maxHeartbeats 4000000 in
set_option maxRecDepth 100000 in
theorem k_X9_setStuffed {l : Launch} {sx : List sx_T} {D : va_G} {cI cZ cO : ClassId} (a_S : Nat) (a_S_cells : Nat) (a_told : Nat) (a_laws : Nat) (o_S_cells : Nat → Int32) (S_cells : Nat → Int32) (p1 : Int32) (p2 : Int32) (hF : f_X9_setStuffed S_cells p1 p2 = some o_S_cells) : CtV l yX9_setStuffed wsX9_setStuffed rm_X9_setStuffed sx D (tyL cI cZ cO) [.ref a_S, .int p1, .int p2] [(oX9 a_S (.ref a_S_cells) (.ref a_told) (.ref a_laws)), (a_S_cells, .inl (cI, 69, .inl S_cells))] [(oX9 a_S (.ref a_S_cells) (.ref a_told) (.ref a_laws)), (a_S_cells, .inl (cI, 69, .inl o_S_cells))] := by
  refine ctV_of (cc := cX9_setStuffed) (ret := none) (maxL := 3) (by decide) rfl (Nat.le_of_ble_eq_true rfl) ?_
  intro p e s m below meth c A ls C K hw hl
  exact q_X9_setStuffed_0 C K a_S a_S_cells a_told a_laws o_S_cells S_cells p1 p2 hF hw (lv_sub hl [0, 1, 2] rfl)
abbrev rm_X9_setPride : Room := { frames := 0, cells := 0, slots := 0, locals := 0 }
theorem in_X9_setPride_X9 : ∀ w ∈ u_ws RX9 TX9 3, w ∈ wsX9_setPride := fun w h => List.mem_cons_of_mem _ (bi_wsX90 w h)
theorem lk_X9_setPride_0 : Cond.fieldLink RX9 11 "GloveHouses$State" "cells" "[I" ∈ wsX9_setPride := List.mem_cons_of_mem _ (bi_wsL_law0_r5 _ (List.mem_of_getElem? (i := 11) rfl))
set_option maxHeartbeats 4000000 in
set_option maxRecDepth 100000 in
theorem q_X9_setPride_0 {p : Program} {l : Launch} {e : Env} {s : State} {m : MethodId} {args : Array Value} {below : List Frame} {meth : Method} {c : Code} {sx : List sx_T} {D : va_G} {cI cZ cO : ClassId} {A : Nat → Prop} (C : Cx p s m args meth c RX9 wsX9_setPride cX9_setPride 2 none) (K : Kx sx D (tyL cI cZ cO) A s) (a_S : Nat) (a_S_cells : Nat) (a_told : Nat) (a_laws : Nat) (o_S_cells : Nat → Int32)    (S_cells : Nat → Int32) (v1 : Int32) {H : Heap} {locs : List Loc} {ls : Array Slot} (hf : b_X9_setPride_0   S_cells v1 = some o_S_cells) (hw : Wo D A s [(oX9 a_S (.ref a_S_cells) (.ref a_told) (.ref a_laws)), (a_S_cells, .inl (cI, 69, .inl S_cells))] H locs) (hl : lv_has ls 2 [(0, .ref a_S), (1, .int v1)]) : W p l e rm_X9_setPride s m args below meth c H locs 0 0 (MQ below (QcV D A [(oX9 a_S (.ref a_S_cells) (.ref a_told) (.ref a_laws)), (a_S_cells, .inl (cI, 69, .inl o_S_cells))]) args s 0 0 A) (F0 m 0 ls []) := by
  obtain ⟨hx, hb, hml, hown, hts, hr, hlk⟩ := id C
  obtain ⟨hK, hX, hA⟩ := id K
  unfold b_X9_setPride_0 at hf
  refine lv_aload_n hx hb dX9_setPride_0 rfl (lv_at hl 0 rfl) ?_
  refine va_get (ci := 9) (v := .ref a_S_cells) (C := RX9) (T := TX9) (N := 3) hx hb hts in_X9_setPride_X9 hown hK hw.1 0 rfl rfl 0 (by decide) (hts _ lk_X9_setPride_0) (fun _ h9 => h9) rfl dX9_setPride_1 ?_
  refine lv_bipush (v := (66 : Int32)) hx hb dX9_setPride_4 (by decide) ?_
  refine lv_iload_n hx hb dX9_setPride_6 rfl (lv_at hl 1 rfl) ?_
  obtain ⟨hc_1, hf⟩ := gd_some hf
  obtain ⟨S_cells_2, e_S_cells_2, hf⟩ := bnd_some hf
  refine va_iast hx hb hK hw.1 hw.2.1 hw.2.2 1 0 rfl rfl (inB_in hc_1) dX9_setPride_7 (fun H locs hP hD hS => ?_)
  have hw : Wo D A s [(oX9 a_S (.ref a_S_cells) (.ref a_told) (.ref a_laws)), (a_S_cells, .inl (cI, 69, .inl S_cells_2))] H locs := by rw [e_S_cells_2]; exact ⟨hP, hD, hS⟩
  cases hf
  exact retV C hw dX9_setPride_8
set_option maxHeartbeats 4000000 in
set_option maxRecDepth 100000 in
theorem k_X9_setPride {l : Launch} {sx : List sx_T} {D : va_G} {cI cZ cO : ClassId} (a_S : Nat) (a_S_cells : Nat) (a_told : Nat) (a_laws : Nat) (o_S_cells : Nat → Int32) (S_cells : Nat → Int32) (p1 : Int32) (hF : f_X9_setPride S_cells p1 = some o_S_cells) : CtV l yX9_setPride wsX9_setPride rm_X9_setPride sx D (tyL cI cZ cO) [.ref a_S, .int p1] [(oX9 a_S (.ref a_S_cells) (.ref a_told) (.ref a_laws)), (a_S_cells, .inl (cI, 69, .inl S_cells))] [(oX9 a_S (.ref a_S_cells) (.ref a_told) (.ref a_laws)), (a_S_cells, .inl (cI, 69, .inl o_S_cells))] := by
  refine ctV_of (cc := cX9_setPride) (ret := none) (maxL := 2) (by decide) rfl (Nat.le_of_ble_eq_true rfl) ?_
  intro p e s m below meth c A ls C K hw hl
  exact q_X9_setPride_0 C K a_S a_S_cells a_told a_laws o_S_cells S_cells p1 hF hw (lv_sub hl [0, 1] rfl)
abbrev rm_X9_tearUp : Room := { frames := 0, cells := 0, slots := 0, locals := 0 }
theorem in_X9_tearUp_X9 : ∀ w ∈ u_ws RX9 TX9 3, w ∈ wsX9_tearUp := fun w h => List.mem_cons_of_mem _ (bi_wsX90 w h)
theorem lk_X9_tearUp_0 : Cond.fieldLink RX9 11 "GloveHouses$State" "cells" "[I" ∈ wsX9_tearUp := List.mem_cons_of_mem _ (bi_wsL_law0_r5 _ (List.mem_of_getElem? (i := 11) rfl))
set_option maxHeartbeats 4000000 in
set_option maxRecDepth 100000 in
theorem q_X9_tearUp_0 {p : Program} {l : Launch} {e : Env} {s : State} {m : MethodId} {args : Array Value} {below : List Frame} {meth : Method} {c : Code} {sx : List sx_T} {D : va_G} {cI cZ cO : ClassId} {A : Nat → Prop} (C : Cx p s m args meth c RX9 wsX9_tearUp cX9_tearUp 2 none) (K : Kx sx D (tyL cI cZ cO) A s) (a_S : Nat) (a_S_cells : Nat) (a_told : Nat) (a_laws : Nat) (o_S_cells : Nat → Int32)    (S_cells : Nat → Int32) (v1 : Int32) {H : Heap} {locs : List Loc} {ls : Array Slot} (hf : b_X9_tearUp_0   S_cells v1 = some o_S_cells) (hw : Wo D A s [(oX9 a_S (.ref a_S_cells) (.ref a_told) (.ref a_laws)), (a_S_cells, .inl (cI, 69, .inl S_cells))] H locs) (hl : lv_has ls 2 [(0, .ref a_S), (1, .int v1)]) : W p l e rm_X9_tearUp s m args below meth c H locs 0 0 (MQ below (QcV D A [(oX9 a_S (.ref a_S_cells) (.ref a_told) (.ref a_laws)), (a_S_cells, .inl (cI, 69, .inl o_S_cells))]) args s 0 0 A) (F0 m 0 ls []) := by
  obtain ⟨hx, hb, hml, hown, hts, hr, hlk⟩ := id C
  obtain ⟨hK, hX, hA⟩ := id K
  unfold b_X9_tearUp_0 at hf
  refine lv_aload_n hx hb dX9_tearUp_0 rfl (lv_at hl 0 rfl) ?_
  refine va_get (ci := 9) (v := .ref a_S_cells) (C := RX9) (T := TX9) (N := 3) hx hb hts in_X9_tearUp_X9 hown hK hw.1 0 rfl rfl 0 (by decide) (hts _ lk_X9_tearUp_0) (fun _ h9 => h9) rfl dX9_tearUp_1 ?_
  refine lv_bipush (v := (60 : Int32)) hx hb dX9_tearUp_4 (by decide) ?_
  refine lv_iload_n hx hb dX9_tearUp_6 rfl (lv_at hl 1 rfl) ?_
  refine lv_iadd hx hb dX9_tearUp_7 ?_
  refine lv_iconst (v := (-1 : Int32)) hx hb dX9_tearUp_8 (by decide) ?_
  obtain ⟨hc_1, hf⟩ := gd_some hf
  obtain ⟨S_cells_2, e_S_cells_2, hf⟩ := bnd_some hf
  refine va_iast hx hb hK hw.1 hw.2.1 hw.2.2 1 0 rfl rfl (inB_in hc_1) dX9_tearUp_9 (fun H locs hP hD hS => ?_)
  have hw : Wo D A s [(oX9 a_S (.ref a_S_cells) (.ref a_told) (.ref a_laws)), (a_S_cells, .inl (cI, 69, .inl S_cells_2))] H locs := by rw [e_S_cells_2]; exact ⟨hP, hD, hS⟩
  cases hf
  exact retV C hw dX9_tearUp_10
set_option maxHeartbeats 4000000 in
set_option maxRecDepth 100000 in
theorem k_X9_tearUp {l : Launch} {sx : List sx_T} {D : va_G} {cI cZ cO : ClassId} (a_S : Nat) (a_S_cells : Nat) (a_told : Nat) (a_laws : Nat) (o_S_cells : Nat → Int32) (S_cells : Nat → Int32) (p1 : Int32) (hF : f_X9_tearUp S_cells p1 = some o_S_cells) : CtV l yX9_tearUp wsX9_tearUp rm_X9_tearUp sx D (tyL cI cZ cO) [.ref a_S, .int p1] [(oX9 a_S (.ref a_S_cells) (.ref a_told) (.ref a_laws)), (a_S_cells, .inl (cI, 69, .inl S_cells))] [(oX9 a_S (.ref a_S_cells) (.ref a_told) (.ref a_laws)), (a_S_cells, .inl (cI, 69, .inl o_S_cells))] := by
  refine ctV_of (cc := cX9_tearUp) (ret := none) (maxL := 2) (by decide) rfl (Nat.le_of_ble_eq_true rfl) ?_
  intro p e s m below meth c A ls C K hw hl
  exact q_X9_tearUp_0 C K a_S a_S_cells a_told a_laws o_S_cells S_cells p1 hF hw (lv_sub hl [0, 1] rfl)
abbrev rm_X9_growProud : Room := { frames := 1, cells := 0, slots := 0, locals := 23 }
theorem in_X9_growProud_X9 : ∀ w ∈ u_ws RX9 TX9 3, w ∈ wsX9_growProud := fun w h => List.mem_cons_of_mem _ (bi_wsX90 w h)
theorem lk_X9_growProud_0 : Cond.fieldLink RX9 11 "GloveHouses$State" "cells" "[I" ∈ wsX9_growProud := List.mem_cons_of_mem _ (bi_wsL_law0_r5 _ (List.mem_of_getElem? (i := 11) rfl))
theorem lk_X9_growProud_1 : Cond.methodLink RX9 44 Lib.Math.min.name ∈ wsX9_growProud := List.mem_cons_of_mem _ (bi_wsL_law0_r29 _ (List.mem_of_getElem? (i := 14) rfl))
theorem lk_X9_growProud_2 : Cond.static Lib.Math.min.name ∈ wsX9_growProud := List.mem_cons_of_mem _ (bi_wsL_law0_r27 _ (List.mem_of_getElem? (i := 18) rfl))
theorem lk_X9_growProud_3 : Cond.initialized "java/lang/Math" ∈ wsX9_growProud := List.mem_cons_of_mem _ (bi_wsL_law0_r27 _ (List.mem_of_getElem? (i := 19) rfl))
theorem lk_X9_growProud_4 : Cond.code Lib.Math.min.name Lib.Math.min.code 2 (some .int) ∈ wsX9_growProud := List.mem_cons_of_mem _ (bi_wsL_law0_r27 _ (List.mem_of_getElem? (i := 20) rfl))
set_option maxHeartbeats 4000000 in
set_option maxRecDepth 100000 in
theorem q_X9_growProud_0 {p : Program} {l : Launch} {e : Env} {s : State} {m : MethodId} {args : Array Value} {below : List Frame} {meth : Method} {c : Code} {sx : List sx_T} {D : va_G} {cI cZ cO : ClassId} {A : Nat → Prop} (C : Cx p s m args meth c RX9 wsX9_growProud cX9_growProud 1 none) (K : Kx sx D (tyL cI cZ cO) A s) (a_S : Nat) (a_S_cells : Nat) (a_told : Nat) (a_laws : Nat) (o_S_cells : Nat → Int32)    (S_cells : Nat → Int32) {H : Heap} {locs : List Loc} {ls : Array Slot} (hf : b_X9_growProud_0   S_cells = some o_S_cells) (hw : Wo D A s [(oX9 a_S (.ref a_S_cells) (.ref a_told) (.ref a_laws)), (a_S_cells, .inl (cI, 69, .inl S_cells))] H locs) (hl : lv_has ls 1 [(0, .ref a_S)]) : W p l e rm_X9_growProud s m args below meth c H locs 0 0 (MQ below (QcV D A [(oX9 a_S (.ref a_S_cells) (.ref a_told) (.ref a_laws)), (a_S_cells, .inl (cI, 69, .inl o_S_cells))]) args s 0 0 A) (F0 m 0 ls []) := by
  obtain ⟨hx, hb, hml, hown, hts, hr, hlk⟩ := id C
  obtain ⟨hK, hX, hA⟩ := id K
  unfold b_X9_growProud_0 at hf
  refine lv_aload_n hx hb dX9_growProud_0 rfl (lv_at hl 0 rfl) ?_
  refine va_get (ci := 9) (v := .ref a_S_cells) (C := RX9) (T := TX9) (N := 3) hx hb hts in_X9_growProud_X9 hown hK hw.1 0 rfl rfl 0 (by decide) (hts _ lk_X9_growProud_0) (fun _ h9 => h9) rfl dX9_growProud_1 ?_
  refine lv_bipush (v := (66 : Int32)) hx hb dX9_growProud_4 (by decide) ?_
  refine lv_bipush (v := (9 : Int32)) hx hb dX9_growProud_6 (by decide) ?_
  refine lv_aload_n hx hb dX9_growProud_8 rfl (lv_at hl 0 rfl) ?_
  refine va_get (ci := 9) (v := .ref a_S_cells) (C := RX9) (T := TX9) (N := 3) hx hb hts in_X9_growProud_X9 hown hK hw.1 0 rfl rfl 0 (by decide) (hts _ lk_X9_growProud_0) (fun _ h9 => h9) rfl dX9_growProud_9 ?_
  refine lv_bipush (v := (66 : Int32)) hx hb dX9_growProud_12 (by decide) ?_
  obtain ⟨hc_1, hf⟩ := gd_some hf
  refine va_iald hx hb hK hw.1 1 0 rfl rfl (inB_in hc_1) dX9_growProud_14 ?_
  refine lv_iconst (v := (1 : Int32)) hx hb dX9_growProud_15 (by decide) ?_
  refine lv_iadd hx hb dX9_growProud_16 ?_
  refine va_mmin hx hb (hml.trans hl.1.symm) hown (hts _ lk_X9_growProud_1) (hts _ lk_X9_growProud_2) (hts _ lk_X9_growProud_3) (hts _ lk_X9_growProud_4) (Nat.le_of_ble_eq_true rfl) (Nat.le_of_ble_eq_true rfl) (Nat.zero_le _) (Nat.zero_le _) dX9_growProud_17 ?_
  obtain ⟨n_2, e_n_2, hf⟩ := bnd_some hf
  refine lv_nmi e_n_2 ?_
  obtain ⟨hc_3, hf⟩ := gd_some hf
  obtain ⟨S_cells_4, e_S_cells_4, hf⟩ := bnd_some hf
  refine va_iast hx hb hK hw.1 hw.2.1 hw.2.2 1 0 rfl rfl (inB_in hc_3) dX9_growProud_20 (fun H locs hP hD hS => ?_)
  have hw : Wo D A s [(oX9 a_S (.ref a_S_cells) (.ref a_told) (.ref a_laws)), (a_S_cells, .inl (cI, 69, .inl S_cells_4))] H locs := by rw [e_S_cells_4]; exact ⟨hP, hD, hS⟩
  cases hf
  exact retV C hw dX9_growProud_21
set_option maxHeartbeats 4000000 in
set_option maxRecDepth 100000 in
theorem k_X9_growProud {l : Launch} {sx : List sx_T} {D : va_G} {cI cZ cO : ClassId} (a_S : Nat) (a_S_cells : Nat) (a_told : Nat) (a_laws : Nat) (o_S_cells : Nat → Int32) (S_cells : Nat → Int32) (hF : f_X9_growProud S_cells = some o_S_cells) : CtV l yX9_growProud wsX9_growProud rm_X9_growProud sx D (tyL cI cZ cO) [.ref a_S] [(oX9 a_S (.ref a_S_cells) (.ref a_told) (.ref a_laws)), (a_S_cells, .inl (cI, 69, .inl S_cells))] [(oX9 a_S (.ref a_S_cells) (.ref a_told) (.ref a_laws)), (a_S_cells, .inl (cI, 69, .inl o_S_cells))] := by
  refine ctV_of (cc := cX9_growProud) (ret := none) (maxL := 1) (by decide) rfl (Nat.le_of_ble_eq_true rfl) ?_
  intro p e s m below meth c A ls C K hw hl
  exact q_X9_growProud_0 C K a_S a_S_cells a_told a_laws o_S_cells S_cells hF hw (lv_sub hl [0] rfl)
abbrev rm_X9_cool : Room := { frames := 1, cells := 0, slots := 0, locals := 23 }
theorem in_X9_cool_X9 : ∀ w ∈ u_ws RX9 TX9 3, w ∈ wsX9_cool := fun w h => List.mem_cons_of_mem _ (bi_wsX90 w h)
theorem in_X9_cool_X5 : ∀ w ∈ u_ws RX5 TX5 10, w ∈ wsX9_cool := fun w h => List.mem_cons_of_mem _ (bi_wsX50 w h)
theorem lk_X9_cool_0 : Cond.fieldLink RX9 15 "GloveHouses$State" "told" "LGloveHouses$Peace;" ∈ wsX9_cool := List.mem_cons_of_mem _ (bi_wsL_law0_r5 _ (List.mem_of_getElem? (i := 12) rfl))
theorem lk_X9_cool_1 : Cond.fieldLink RX9 102 "GloveHouses$Peace" "gloves" "I" ∈ wsX9_cool := List.mem_cons_of_mem _ (bi_wsL_law0_r37 _ (List.mem_of_getElem? (i := 4) rfl))
theorem lk_X9_cool_2 : Cond.fieldLink RX9 11 "GloveHouses$State" "cells" "[I" ∈ wsX9_cool := List.mem_cons_of_mem _ (bi_wsL_law0_r5 _ (List.mem_of_getElem? (i := 11) rfl))
theorem lk_X9_cool_3 : Cond.methodLink RX9 44 Lib.Math.min.name ∈ wsX9_cool := List.mem_cons_of_mem _ (bi_wsL_law0_r29 _ (List.mem_of_getElem? (i := 14) rfl))
theorem lk_X9_cool_4 : Cond.static Lib.Math.min.name ∈ wsX9_cool := List.mem_cons_of_mem _ (bi_wsL_law0_r27 _ (List.mem_of_getElem? (i := 18) rfl))
theorem lk_X9_cool_5 : Cond.initialized "java/lang/Math" ∈ wsX9_cool := List.mem_cons_of_mem _ (bi_wsL_law0_r27 _ (List.mem_of_getElem? (i := 19) rfl))
theorem lk_X9_cool_6 : Cond.code Lib.Math.min.name Lib.Math.min.code 2 (some .int) ∈ wsX9_cool := List.mem_cons_of_mem _ (bi_wsL_law0_r27 _ (List.mem_of_getElem? (i := 20) rfl))
theorem lk_X9_cool_7 : Cond.initialized RX9 ∈ wsX9_cool := List.mem_cons_of_mem _ (bi_wsL_law0_r2 _ (List.mem_of_getElem? (i := 12) rfl))
theorem lk_X9_cool_8 : Cond.methodLink RX9 50 yX9_placeOf ∈ wsX9_cool := List.mem_cons_of_mem _ (bi_wsL_law0_r27 _ (List.mem_of_getElem? (i := 3) rfl))
theorem lk_X9_cool_9 : Cond.static yX9_placeOf ∈ wsX9_cool := List.mem_cons_of_mem _ (bi_wsL_law0_r27 _ (List.mem_of_getElem? (i := 4) rfl))
set_option maxHeartbeats 4000000 in
set_option maxRecDepth 100000 in
theorem q_X9_cool_66 {p : Program} {l : Launch} {e : Env} {s : State} {m : MethodId} {args : Array Value} {below : List Frame} {meth : Method} {c : Code} {sx : List sx_T} {D : va_G} {cI cZ cO : ClassId} {A : Nat → Prop} (C : Cx p s m args meth c RX9 wsX9_cool cX9_cool 4 none) (K : Kx sx D (tyL cI cZ cO) A s) (a_told : Nat) (a_told_house : Nat) (a_told_free : Nat) (a_told_stuffed : Nat) (a_told_after : Nat) (a_told_weight : Nat) (a_told_need : Nat) (a_S : Nat) (a_S_cells : Nat) (a_laws : Nat) (told_gloves : Int32) (told_matters : Int32) (told_pride : Int32) (told_coins : Int32) (o_S_cells : Nat → Int32)   (k2 : (Nat → Int32) → Int32 → Option ((Nat → Int32))) (hk2 : ∀ (S_cells : Nat → Int32) (v1 : Int32) (H : Heap) (locs : List Loc) (ls : Array Slot), k2 S_cells v1 = some o_S_cells → Wo D A s [(oX5 a_told (.int told_gloves) (.int told_matters) (.int told_pride) (.int told_coins) (.ref a_told_house) (.ref a_told_free) (.ref a_told_stuffed) (.ref a_told_after) (.ref a_told_weight) (.ref a_told_need)), (oX9 a_S (.ref a_S_cells) (.ref a_told) (.ref a_laws)), (a_S_cells, .inl (cI, 69, .inl S_cells))] H locs → lv_has ls 4 [(0, .ref a_S), (1, .int v1)] → W p l e rm_X9_cool s m args below meth c H locs 0 0 (MQ below (QcV D A [(oX5 a_told (.int told_gloves) (.int told_matters) (.int told_pride) (.int told_coins) (.ref a_told_house) (.ref a_told_free) (.ref a_told_stuffed) (.ref a_told_after) (.ref a_told_weight) (.ref a_told_need)), (oX9 a_S (.ref a_S_cells) (.ref a_told) (.ref a_laws)), (a_S_cells, .inl (cI, 69, .inl o_S_cells))]) args s 0 0 A) (F0 m 2 ls [])) (k17 : (Nat → Int32) → Int32 → Int32 → Option ((Nat → Int32))) (hk17 : ∀ (S_cells : Nat → Int32) (v1 : Int32) (v2 : Int32) (H : Heap) (locs : List Loc) (ls : Array Slot), k17 S_cells v1 v2 = some o_S_cells → Wo D A s [(oX5 a_told (.int told_gloves) (.int told_matters) (.int told_pride) (.int told_coins) (.ref a_told_house) (.ref a_told_free) (.ref a_told_stuffed) (.ref a_told_after) (.ref a_told_weight) (.ref a_told_need)), (oX9 a_S (.ref a_S_cells) (.ref a_told) (.ref a_laws)), (a_S_cells, .inl (cI, 69, .inl S_cells))] H locs → lv_has ls 4 [(0, .ref a_S), (1, .int v1), (2, .int v2)] → W p l e rm_X9_cool s m args below meth c H locs 0 0 (MQ below (QcV D A [(oX5 a_told (.int told_gloves) (.int told_matters) (.int told_pride) (.int told_coins) (.ref a_told_house) (.ref a_told_free) (.ref a_told_stuffed) (.ref a_told_after) (.ref a_told_weight) (.ref a_told_need)), (oX9 a_S (.ref a_S_cells) (.ref a_told) (.ref a_laws)), (a_S_cells, .inl (cI, 69, .inl o_S_cells))]) args s 0 0 A) (F0 m 17 ls [])) (S_cells : Nat → Int32) (v1 : Int32) (v2 : Int32) {H : Heap} {locs : List Loc} {ls : Array Slot} (hf : b_X9_cool_66 told_gloves k2 k17 S_cells v1 v2 = some o_S_cells) (hw : Wo D A s [(oX5 a_told (.int told_gloves) (.int told_matters) (.int told_pride) (.int told_coins) (.ref a_told_house) (.ref a_told_free) (.ref a_told_stuffed) (.ref a_told_after) (.ref a_told_weight) (.ref a_told_need)), (oX9 a_S (.ref a_S_cells) (.ref a_told) (.ref a_laws)), (a_S_cells, .inl (cI, 69, .inl S_cells))] H locs) (hl : lv_has ls 4 [(0, .ref a_S), (1, .int v1), (2, .int v2)]) : W p l e rm_X9_cool s m args below meth c H locs 0 0 (MQ below (QcV D A [(oX5 a_told (.int told_gloves) (.int told_matters) (.int told_pride) (.int told_coins) (.ref a_told_house) (.ref a_told_free) (.ref a_told_stuffed) (.ref a_told_after) (.ref a_told_weight) (.ref a_told_need)), (oX9 a_S (.ref a_S_cells) (.ref a_told) (.ref a_laws)), (a_S_cells, .inl (cI, 69, .inl o_S_cells))]) args s 0 0 A) (F0 m 66 ls []) := by
  obtain ⟨hx, hb, hml, hown, hts, hr, hlk⟩ := id C
  obtain ⟨hK, hX, hA⟩ := id K
  unfold b_X9_cool_66 at hf
  obtain ⟨v2_1, e_v2_1, hf⟩ := bnd_some hf
  refine lv_iinc (v := v2_1) (lv' := [(2, .int v2_1), (0, .ref a_S), (1, .int v1)]) hx hb dX9_cool_66 hl (k := 2) rfl (by rw [e_v2_1]; rfl) (by decide) rfl (fun ls hl => ?_)
  refine lv_goto (tgt := 17) hx hb dX9_cool_69 (by decide) ?_
  exact hk17 S_cells v1 v2_1 _ _ _ hf hw (lv_sub hl [1, 2, 0] rfl)
set_option maxHeartbeats 4000000 in
set_option maxRecDepth 100000 in
theorem q_X9_cool_17 {p : Program} {l : Launch} {e : Env} {s : State} {m : MethodId} {args : Array Value} {below : List Frame} {meth : Method} {c : Code} {sx : List sx_T} {D : va_G} {cI cZ cO : ClassId} {A : Nat → Prop} (C : Cx p s m args meth c RX9 wsX9_cool cX9_cool 4 none) (K : Kx sx D (tyL cI cZ cO) A s) (a_told : Nat) (a_told_house : Nat) (a_told_free : Nat) (a_told_stuffed : Nat) (a_told_after : Nat) (a_told_weight : Nat) (a_told_need : Nat) (a_S : Nat) (a_S_cells : Nat) (a_laws : Nat) (told_gloves : Int32) (told_matters : Int32) (told_pride : Int32) (told_coins : Int32) (o_S_cells : Nat → Int32)   (k2 : (Nat → Int32) → Int32 → Option ((Nat → Int32))) (hk2 : ∀ (S_cells : Nat → Int32) (v1 : Int32) (H : Heap) (locs : List Loc) (ls : Array Slot), k2 S_cells v1 = some o_S_cells → Wo D A s [(oX5 a_told (.int told_gloves) (.int told_matters) (.int told_pride) (.int told_coins) (.ref a_told_house) (.ref a_told_free) (.ref a_told_stuffed) (.ref a_told_after) (.ref a_told_weight) (.ref a_told_need)), (oX9 a_S (.ref a_S_cells) (.ref a_told) (.ref a_laws)), (a_S_cells, .inl (cI, 69, .inl S_cells))] H locs → lv_has ls 4 [(0, .ref a_S), (1, .int v1)] → W p l e rm_X9_cool s m args below meth c H locs 0 0 (MQ below (QcV D A [(oX5 a_told (.int told_gloves) (.int told_matters) (.int told_pride) (.int told_coins) (.ref a_told_house) (.ref a_told_free) (.ref a_told_stuffed) (.ref a_told_after) (.ref a_told_weight) (.ref a_told_need)), (oX9 a_S (.ref a_S_cells) (.ref a_told) (.ref a_laws)), (a_S_cells, .inl (cI, 69, .inl o_S_cells))]) args s 0 0 A) (F0 m 2 ls [])) (k17 : (Nat → Int32) → Int32 → Int32 → Option ((Nat → Int32))) (hk17 : ∀ (S_cells : Nat → Int32) (v1 : Int32) (v2 : Int32) (H : Heap) (locs : List Loc) (ls : Array Slot), k17 S_cells v1 v2 = some o_S_cells → Wo D A s [(oX5 a_told (.int told_gloves) (.int told_matters) (.int told_pride) (.int told_coins) (.ref a_told_house) (.ref a_told_free) (.ref a_told_stuffed) (.ref a_told_after) (.ref a_told_weight) (.ref a_told_need)), (oX9 a_S (.ref a_S_cells) (.ref a_told) (.ref a_laws)), (a_S_cells, .inl (cI, 69, .inl S_cells))] H locs → lv_has ls 4 [(0, .ref a_S), (1, .int v1), (2, .int v2)] → W p l e rm_X9_cool s m args below meth c H locs 0 0 (MQ below (QcV D A [(oX5 a_told (.int told_gloves) (.int told_matters) (.int told_pride) (.int told_coins) (.ref a_told_house) (.ref a_told_free) (.ref a_told_stuffed) (.ref a_told_after) (.ref a_told_weight) (.ref a_told_need)), (oX9 a_S (.ref a_S_cells) (.ref a_told) (.ref a_laws)), (a_S_cells, .inl (cI, 69, .inl o_S_cells))]) args s 0 0 A) (F0 m 17 ls [])) (S_cells : Nat → Int32) (v1 : Int32) (v2 : Int32) {H : Heap} {locs : List Loc} {ls : Array Slot} (hf : b_X9_cool_17 told_gloves k2 k17 S_cells v1 v2 = some o_S_cells) (hw : Wo D A s [(oX5 a_told (.int told_gloves) (.int told_matters) (.int told_pride) (.int told_coins) (.ref a_told_house) (.ref a_told_free) (.ref a_told_stuffed) (.ref a_told_after) (.ref a_told_weight) (.ref a_told_need)), (oX9 a_S (.ref a_S_cells) (.ref a_told) (.ref a_laws)), (a_S_cells, .inl (cI, 69, .inl S_cells))] H locs) (hl : lv_has ls 4 [(0, .ref a_S), (1, .int v1), (2, .int v2)]) : W p l e rm_X9_cool s m args below meth c H locs 0 0 (MQ below (QcV D A [(oX5 a_told (.int told_gloves) (.int told_matters) (.int told_pride) (.int told_coins) (.ref a_told_house) (.ref a_told_free) (.ref a_told_stuffed) (.ref a_told_after) (.ref a_told_weight) (.ref a_told_need)), (oX9 a_S (.ref a_S_cells) (.ref a_told) (.ref a_laws)), (a_S_cells, .inl (cI, 69, .inl o_S_cells))]) args s 0 0 A) (F0 m 17 ls []) := by
  obtain ⟨hx, hb, hml, hown, hts, hr, hlk⟩ := id C
  obtain ⟨hK, hX, hA⟩ := id K
  unfold b_X9_cool_17 at hf
  refine lv_iload_n hx hb dX9_cool_17 rfl (lv_at hl 2 rfl) ?_
  refine lv_aload_n hx hb dX9_cool_18 rfl (lv_at hl 0 rfl) ?_
  refine va_get (ci := 9) (v := .ref a_told) (C := RX9) (T := TX9) (N := 3) hx hb hts in_X9_cool_X9 hown hK hw.1 1 rfl rfl 1 (by decide) (hts _ lk_X9_cool_0) (fun _ h9 => h9) rfl dX9_cool_19 ?_
  refine va_get (ci := 5) (v := .int told_gloves) (C := RX5) (T := TX5) (N := 10) hx hb hts in_X9_cool_X5 hown hK hw.1 0 rfl rfl 0 (by decide) (hts _ lk_X9_cool_1) (fun _ h9 => h9) rfl dX9_cool_22 ?_
  refine lv_icmp_ge (tgt := 72) hx hb dX9_cool_25 (by decide) (fun hc => ?_) (fun hc => ?_)
  · have hf := (if_pos hc).symm.trans hf
    obtain ⟨v1_1, e_v1_1, hf⟩ := bnd_some hf
    refine lv_iinc (v := v1_1) (lv' := [(1, .int v1_1), (0, .ref a_S), (2, .int v2)]) hx hb dX9_cool_72 hl (k := 1) rfl (by rw [e_v1_1]; rfl) (by decide) rfl (fun ls hl => ?_)
    refine lv_goto (tgt := 2) hx hb dX9_cool_75 (by decide) ?_
    exact hk2 S_cells v1_1 _ _ _ hf hw (lv_sub hl [1, 0] rfl)
  · have hf := (if_neg hc).symm.trans hf
    refine lv_iload_n hx hb dX9_cool_28 rfl (lv_at hl 1 rfl) ?_
    refine lv_iload_n hx hb dX9_cool_29 rfl (lv_at hl 2 rfl) ?_
    obtain ⟨r_2, hg_3, hf⟩ := ob1_some hf
    refine cl_SiA (As := [.int v1, .int v2]) (rest := []) C K hw (k_X9_placeOf r_2 v1 v2 hg_3) [] rfl (by decide) rfl rfl ⟨callB_of 2 hts (fun w h => gX9_cool_X9_placeOf w (List.mem_append_right _ h)) rfl rfl rfl (hts _ lk_X9_cool_7) (hts _ lk_X9_cool_8) (by decide +kernel) ⟨Nat.le_of_ble_eq_true rfl, Nat.le_of_ble_eq_true rfl⟩, hts _ lk_X9_cool_9⟩ rfl hl rfl (Nat.le_of_ble_eq_true rfl) dX9_cool_30 ⟨Nat.zero_le _, Nat.zero_le _⟩ (fun H locs hw => ?_)
    have hw : Wo D A s [(oX5 a_told (.int told_gloves) (.int told_matters) (.int told_pride) (.int told_coins) (.ref a_told_house) (.ref a_told_free) (.ref a_told_stuffed) (.ref a_told_after) (.ref a_told_weight) (.ref a_told_need)), (oX9 a_S (.ref a_S_cells) (.ref a_told) (.ref a_laws)), (a_S_cells, .inl (cI, 69, .inl S_cells))] H locs := hw
    refine lv_istore_n (lv' := [(3, .int r_2), (0, .ref a_S), (1, .int v1), (2, .int v2)]) hx hb dX9_cool_33 rfl hl (by decide) rfl (fun ls hl => ?_)
    refine lv_aload_n hx hb dX9_cool_34 rfl (lv_at hl 1 rfl) ?_
    refine va_get (ci := 9) (v := .ref a_S_cells) (C := RX9) (T := TX9) (N := 3) hx hb hts in_X9_cool_X9 hown hK hw.1 1 rfl rfl 0 (by decide) (hts _ lk_X9_cool_2) (fun _ h9 => h9) rfl dX9_cool_35 ?_
    refine lv_bipush (v := (54 : Int32)) hx hb dX9_cool_38 (by decide) ?_
    refine lv_iload_n hx hb dX9_cool_40 rfl (lv_at hl 2 rfl) ?_
    refine lv_iadd hx hb dX9_cool_41 ?_
    obtain ⟨hc_4, hf⟩ := gd_some hf
    refine va_iald hx hb hK hw.1 2 0 rfl rfl (inB_in hc_4) dX9_cool_42 ?_
    refine lv_iload_n hx hb dX9_cool_43 rfl (lv_at hl 3 rfl) ?_
    refine lv_icmp_eq (tgt := 66) hx hb dX9_cool_44 (by decide) (fun hc => ?_) (fun hc => ?_)
    · have hf := (if_pos hc).symm.trans hf
      exact q_X9_cool_66 C K a_told a_told_house a_told_free a_told_stuffed a_told_after a_told_weight a_told_need a_S a_S_cells a_laws told_gloves told_matters told_pride told_coins o_S_cells k2 hk2 k17 hk17 S_cells v1 v2 hf hw (lv_sub hl [1, 2, 3] rfl)
    · have hf := (if_neg hc).symm.trans hf
      refine lv_aload_n hx hb dX9_cool_47 rfl (lv_at hl 1 rfl) ?_
      refine va_get (ci := 9) (v := .ref a_S_cells) (C := RX9) (T := TX9) (N := 3) hx hb hts in_X9_cool_X9 hown hK hw.1 1 rfl rfl 0 (by decide) (hts _ lk_X9_cool_2) (fun _ h9 => h9) rfl dX9_cool_48 ?_
      refine lv_iload_n hx hb dX9_cool_51 rfl (lv_at hl 0 rfl) ?_
      obtain ⟨hc_5, hf⟩ := gd_some hf
      refine va_iald hx hb hK hw.1 2 0 rfl rfl (inB_in hc_5) dX9_cool_52 ?_
      refine lv_if_le (tgt := 66) hx hb dX9_cool_53 (by decide) (fun hc => ?_) (fun hc => ?_)
      · have hf := (if_pos hc).symm.trans hf
        exact q_X9_cool_66 C K a_told a_told_house a_told_free a_told_stuffed a_told_after a_told_weight a_told_need a_S a_S_cells a_laws told_gloves told_matters told_pride told_coins o_S_cells k2 hk2 k17 hk17 S_cells v1 v2 hf hw (lv_sub hl [1, 2, 3] rfl)
      · have hf := (if_neg hc).symm.trans hf
        refine lv_aload_n hx hb dX9_cool_56 rfl (lv_at hl 1 rfl) ?_
        refine va_get (ci := 9) (v := .ref a_S_cells) (C := RX9) (T := TX9) (N := 3) hx hb hts in_X9_cool_X9 hown hK hw.1 1 rfl rfl 0 (by decide) (hts _ lk_X9_cool_2) (fun _ h9 => h9) rfl dX9_cool_57 ?_
        refine lv_iload_n hx hb dX9_cool_60 rfl (lv_at hl 0 rfl) ?_
        refine lv_dup2_11 hx hb dX9_cool_61 rfl rfl ?_
        obtain ⟨hc_6, hf⟩ := gd_some hf
        refine va_iald hx hb hK hw.1 2 0 rfl rfl (inB_in hc_6) dX9_cool_62 ?_
        refine lv_iconst (v := (1 : Int32)) hx hb dX9_cool_63 (by decide) ?_
        refine lv_isub hx hb dX9_cool_64 ?_
        obtain ⟨hc_7, hf⟩ := gd_some hf
        obtain ⟨S_cells_8, e_S_cells_8, hf⟩ := bnd_some hf
        refine va_iast hx hb hK hw.1 hw.2.1 hw.2.2 2 0 rfl rfl (inB_in hc_7) dX9_cool_65 (fun H locs hP hD hS => ?_)
        have hw : Wo D A s [(oX5 a_told (.int told_gloves) (.int told_matters) (.int told_pride) (.int told_coins) (.ref a_told_house) (.ref a_told_free) (.ref a_told_stuffed) (.ref a_told_after) (.ref a_told_weight) (.ref a_told_need)), (oX9 a_S (.ref a_S_cells) (.ref a_told) (.ref a_laws)), (a_S_cells, .inl (cI, 69, .inl S_cells_8))] H locs := by rw [e_S_cells_8]; exact ⟨hP, hD, hS⟩
        exact q_X9_cool_66 C K a_told a_told_house a_told_free a_told_stuffed a_told_after a_told_weight a_told_need a_S a_S_cells a_laws told_gloves told_matters told_pride told_coins o_S_cells k2 hk2 k17 hk17 S_cells_8 v1 v2 hf hw (lv_sub hl [1, 2, 3] rfl)
theorem qf_X9_cool_17 {p : Program} {l : Launch} {e : Env} {s : State} {m : MethodId} {args : Array Value} {below : List Frame} {meth : Method} {c : Code} {sx : List sx_T} {D : va_G} {cI cZ cO : ClassId} {A : Nat → Prop} (C : Cx p s m args meth c RX9 wsX9_cool cX9_cool 4 none) (K : Kx sx D (tyL cI cZ cO) A s) (a_told : Nat) (a_told_house : Nat) (a_told_free : Nat) (a_told_stuffed : Nat) (a_told_after : Nat) (a_told_weight : Nat) (a_told_need : Nat) (a_S : Nat) (a_S_cells : Nat) (a_laws : Nat) (told_gloves : Int32) (told_matters : Int32) (told_pride : Int32) (told_coins : Int32) (o_S_cells : Nat → Int32)   (k2 : (Nat → Int32) → Int32 → Option ((Nat → Int32))) (hk2 : ∀ (S_cells : Nat → Int32) (v1 : Int32) (H : Heap) (locs : List Loc) (ls : Array Slot), k2 S_cells v1 = some o_S_cells → Wo D A s [(oX5 a_told (.int told_gloves) (.int told_matters) (.int told_pride) (.int told_coins) (.ref a_told_house) (.ref a_told_free) (.ref a_told_stuffed) (.ref a_told_after) (.ref a_told_weight) (.ref a_told_need)), (oX9 a_S (.ref a_S_cells) (.ref a_told) (.ref a_laws)), (a_S_cells, .inl (cI, 69, .inl S_cells))] H locs → lv_has ls 4 [(0, .ref a_S), (1, .int v1)] → W p l e rm_X9_cool s m args below meth c H locs 0 0 (MQ below (QcV D A [(oX5 a_told (.int told_gloves) (.int told_matters) (.int told_pride) (.int told_coins) (.ref a_told_house) (.ref a_told_free) (.ref a_told_stuffed) (.ref a_told_after) (.ref a_told_weight) (.ref a_told_need)), (oX9 a_S (.ref a_S_cells) (.ref a_told) (.ref a_laws)), (a_S_cells, .inl (cI, 69, .inl o_S_cells))]) args s 0 0 A) (F0 m 2 ls [])) (n : Nat) : ∀ (S_cells : Nat → Int32) (v1 : Int32) (v2 : Int32) (H : Heap) (locs : List Loc) (ls : Array Slot), f_X9_cool_17 told_gloves k2 n S_cells v1 v2 = some o_S_cells → Wo D A s [(oX5 a_told (.int told_gloves) (.int told_matters) (.int told_pride) (.int told_coins) (.ref a_told_house) (.ref a_told_free) (.ref a_told_stuffed) (.ref a_told_after) (.ref a_told_weight) (.ref a_told_need)), (oX9 a_S (.ref a_S_cells) (.ref a_told) (.ref a_laws)), (a_S_cells, .inl (cI, 69, .inl S_cells))] H locs → lv_has ls 4 [(0, .ref a_S), (1, .int v1), (2, .int v2)] → W p l e rm_X9_cool s m args below meth c H locs 0 0 (MQ below (QcV D A [(oX5 a_told (.int told_gloves) (.int told_matters) (.int told_pride) (.int told_coins) (.ref a_told_house) (.ref a_told_free) (.ref a_told_stuffed) (.ref a_told_after) (.ref a_told_weight) (.ref a_told_need)), (oX9 a_S (.ref a_S_cells) (.ref a_told) (.ref a_laws)), (a_S_cells, .inl (cI, 69, .inl o_S_cells))]) args s 0 0 A) (F0 m 17 ls []) := by
  induction n with
  | zero =>
    intro S_cells v1 v2 H locs ls hf
    have h9 : (none : Option ((Nat → Int32))) = some o_S_cells := hf
    cases h9
  | succ n ih =>
    intro S_cells v1 v2 H locs ls hf hw hl
    exact q_X9_cool_17 C K a_told a_told_house a_told_free a_told_stuffed a_told_after a_told_weight a_told_need a_S a_S_cells a_laws told_gloves told_matters told_pride told_coins o_S_cells k2 hk2 (f_X9_cool_17 told_gloves k2 n) ih S_cells v1 v2 hf hw hl
set_option maxHeartbeats 4000000 in
set_option maxRecDepth 100000 in
theorem q_X9_cool_2 {p : Program} {l : Launch} {e : Env} {s : State} {m : MethodId} {args : Array Value} {below : List Frame} {meth : Method} {c : Code} {sx : List sx_T} {D : va_G} {cI cZ cO : ClassId} {A : Nat → Prop} (C : Cx p s m args meth c RX9 wsX9_cool cX9_cool 4 none) (K : Kx sx D (tyL cI cZ cO) A s) (a_told : Nat) (a_told_house : Nat) (a_told_free : Nat) (a_told_stuffed : Nat) (a_told_after : Nat) (a_told_weight : Nat) (a_told_need : Nat) (a_S : Nat) (a_S_cells : Nat) (a_laws : Nat) (told_gloves : Int32) (told_matters : Int32) (told_pride : Int32) (told_coins : Int32) (o_S_cells : Nat → Int32)   (k2 : (Nat → Int32) → Int32 → Option ((Nat → Int32))) (hk2 : ∀ (S_cells : Nat → Int32) (v1 : Int32) (H : Heap) (locs : List Loc) (ls : Array Slot), k2 S_cells v1 = some o_S_cells → Wo D A s [(oX5 a_told (.int told_gloves) (.int told_matters) (.int told_pride) (.int told_coins) (.ref a_told_house) (.ref a_told_free) (.ref a_told_stuffed) (.ref a_told_after) (.ref a_told_weight) (.ref a_told_need)), (oX9 a_S (.ref a_S_cells) (.ref a_told) (.ref a_laws)), (a_S_cells, .inl (cI, 69, .inl S_cells))] H locs → lv_has ls 4 [(0, .ref a_S), (1, .int v1)] → W p l e rm_X9_cool s m args below meth c H locs 0 0 (MQ below (QcV D A [(oX5 a_told (.int told_gloves) (.int told_matters) (.int told_pride) (.int told_coins) (.ref a_told_house) (.ref a_told_free) (.ref a_told_stuffed) (.ref a_told_after) (.ref a_told_weight) (.ref a_told_need)), (oX9 a_S (.ref a_S_cells) (.ref a_told) (.ref a_laws)), (a_S_cells, .inl (cI, 69, .inl o_S_cells))]) args s 0 0 A) (F0 m 2 ls [])) (S_cells : Nat → Int32) (v1 : Int32) {H : Heap} {locs : List Loc} {ls : Array Slot} (hf : b_X9_cool_2 told_gloves k2 S_cells v1 = some o_S_cells) (hw : Wo D A s [(oX5 a_told (.int told_gloves) (.int told_matters) (.int told_pride) (.int told_coins) (.ref a_told_house) (.ref a_told_free) (.ref a_told_stuffed) (.ref a_told_after) (.ref a_told_weight) (.ref a_told_need)), (oX9 a_S (.ref a_S_cells) (.ref a_told) (.ref a_laws)), (a_S_cells, .inl (cI, 69, .inl S_cells))] H locs) (hl : lv_has ls 4 [(0, .ref a_S), (1, .int v1)]) : W p l e rm_X9_cool s m args below meth c H locs 0 0 (MQ below (QcV D A [(oX5 a_told (.int told_gloves) (.int told_matters) (.int told_pride) (.int told_coins) (.ref a_told_house) (.ref a_told_free) (.ref a_told_stuffed) (.ref a_told_after) (.ref a_told_weight) (.ref a_told_need)), (oX9 a_S (.ref a_S_cells) (.ref a_told) (.ref a_laws)), (a_S_cells, .inl (cI, 69, .inl o_S_cells))]) args s 0 0 A) (F0 m 2 ls []) := by
  obtain ⟨hx, hb, hml, hown, hts, hr, hlk⟩ := id C
  obtain ⟨hK, hX, hA⟩ := id K
  unfold b_X9_cool_2 at hf
  refine lv_iload_n hx hb dX9_cool_2 rfl (lv_at hl 1 rfl) ?_
  refine lv_aload_n hx hb dX9_cool_3 rfl (lv_at hl 0 rfl) ?_
  refine va_get (ci := 9) (v := .ref a_told) (C := RX9) (T := TX9) (N := 3) hx hb hts in_X9_cool_X9 hown hK hw.1 1 rfl rfl 1 (by decide) (hts _ lk_X9_cool_0) (fun _ h9 => h9) rfl dX9_cool_4 ?_
  refine va_get (ci := 5) (v := .int told_gloves) (C := RX5) (T := TX5) (N := 10) hx hb hts in_X9_cool_X5 hown hK hw.1 0 rfl rfl 0 (by decide) (hts _ lk_X9_cool_1) (fun _ h9 => h9) rfl dX9_cool_7 ?_
  refine lv_icmp_ge (tgt := 78) hx hb dX9_cool_10 (by decide) (fun hc => ?_) (fun hc => ?_)
  · have hf := (if_pos hc).symm.trans hf
    refine lv_aload_n hx hb dX9_cool_78 rfl (lv_at hl 0 rfl) ?_
    refine va_get (ci := 9) (v := .ref a_S_cells) (C := RX9) (T := TX9) (N := 3) hx hb hts in_X9_cool_X9 hown hK hw.1 1 rfl rfl 0 (by decide) (hts _ lk_X9_cool_2) (fun _ h9 => h9) rfl dX9_cool_79 ?_
    refine lv_bipush (v := (67 : Int32)) hx hb dX9_cool_82 (by decide) ?_
    refine lv_sipush (v := (999 : Int32)) hx hb dX9_cool_84 (by decide) ?_
    refine lv_aload_n hx hb dX9_cool_87 rfl (lv_at hl 0 rfl) ?_
    refine va_get (ci := 9) (v := .ref a_S_cells) (C := RX9) (T := TX9) (N := 3) hx hb hts in_X9_cool_X9 hown hK hw.1 1 rfl rfl 0 (by decide) (hts _ lk_X9_cool_2) (fun _ h9 => h9) rfl dX9_cool_88 ?_
    refine lv_bipush (v := (67 : Int32)) hx hb dX9_cool_91 (by decide) ?_
    obtain ⟨hc_1, hf⟩ := gd_some hf
    refine va_iald hx hb hK hw.1 2 0 rfl rfl (inB_in hc_1) dX9_cool_93 ?_
    refine lv_iconst (v := (2 : Int32)) hx hb dX9_cool_94 (by decide) ?_
    refine lv_iadd hx hb dX9_cool_95 ?_
    refine va_mmin hx hb (hml.trans hl.1.symm) hown (hts _ lk_X9_cool_3) (hts _ lk_X9_cool_4) (hts _ lk_X9_cool_5) (hts _ lk_X9_cool_6) (Nat.le_of_ble_eq_true rfl) (Nat.le_of_ble_eq_true rfl) (Nat.zero_le _) (Nat.zero_le _) dX9_cool_96 ?_
    obtain ⟨n_2, e_n_2, hf⟩ := bnd_some hf
    refine lv_nmi e_n_2 ?_
    obtain ⟨hc_3, hf⟩ := gd_some hf
    obtain ⟨S_cells_4, e_S_cells_4, hf⟩ := bnd_some hf
    refine va_iast hx hb hK hw.1 hw.2.1 hw.2.2 2 0 rfl rfl (inB_in hc_3) dX9_cool_99 (fun H locs hP hD hS => ?_)
    have hw : Wo D A s [(oX5 a_told (.int told_gloves) (.int told_matters) (.int told_pride) (.int told_coins) (.ref a_told_house) (.ref a_told_free) (.ref a_told_stuffed) (.ref a_told_after) (.ref a_told_weight) (.ref a_told_need)), (oX9 a_S (.ref a_S_cells) (.ref a_told) (.ref a_laws)), (a_S_cells, .inl (cI, 69, .inl S_cells_4))] H locs := by rw [e_S_cells_4]; exact ⟨hP, hD, hS⟩
    clear hk2; cases hf
    exact retV C hw dX9_cool_100
  · have hf := (if_neg hc).symm.trans hf
    refine lv_iload_n hx hb dX9_cool_13 rfl (lv_at hl 1 rfl) ?_
    refine lv_iconst (v := (1 : Int32)) hx hb dX9_cool_14 (by decide) ?_
    refine lv_iadd hx hb dX9_cool_15 ?_
    obtain ⟨v2_5, e_v2_5, hf⟩ := bnd_some hf
    refine lv_nmi e_v2_5 ?_
    refine lv_istore_n (lv' := [(2, .int v2_5), (0, .ref a_S), (1, .int v1)]) hx hb dX9_cool_16 rfl hl (by decide) rfl (fun ls hl => ?_)
    exact qf_X9_cool_17 C K a_told a_told_house a_told_free a_told_stuffed a_told_after a_told_weight a_told_need a_S a_S_cells a_laws told_gloves told_matters told_pride told_coins o_S_cells k2 hk2 fu S_cells v1 v2_5 _ _ _ hf hw (lv_sub hl [1, 2, 0] rfl)
theorem qf_X9_cool_2 {p : Program} {l : Launch} {e : Env} {s : State} {m : MethodId} {args : Array Value} {below : List Frame} {meth : Method} {c : Code} {sx : List sx_T} {D : va_G} {cI cZ cO : ClassId} {A : Nat → Prop} (C : Cx p s m args meth c RX9 wsX9_cool cX9_cool 4 none) (K : Kx sx D (tyL cI cZ cO) A s) (a_told : Nat) (a_told_house : Nat) (a_told_free : Nat) (a_told_stuffed : Nat) (a_told_after : Nat) (a_told_weight : Nat) (a_told_need : Nat) (a_S : Nat) (a_S_cells : Nat) (a_laws : Nat) (told_gloves : Int32) (told_matters : Int32) (told_pride : Int32) (told_coins : Int32) (o_S_cells : Nat → Int32)    (n : Nat) : ∀ (S_cells : Nat → Int32) (v1 : Int32) (H : Heap) (locs : List Loc) (ls : Array Slot), f_X9_cool_2 told_gloves  n S_cells v1 = some o_S_cells → Wo D A s [(oX5 a_told (.int told_gloves) (.int told_matters) (.int told_pride) (.int told_coins) (.ref a_told_house) (.ref a_told_free) (.ref a_told_stuffed) (.ref a_told_after) (.ref a_told_weight) (.ref a_told_need)), (oX9 a_S (.ref a_S_cells) (.ref a_told) (.ref a_laws)), (a_S_cells, .inl (cI, 69, .inl S_cells))] H locs → lv_has ls 4 [(0, .ref a_S), (1, .int v1)] → W p l e rm_X9_cool s m args below meth c H locs 0 0 (MQ below (QcV D A [(oX5 a_told (.int told_gloves) (.int told_matters) (.int told_pride) (.int told_coins) (.ref a_told_house) (.ref a_told_free) (.ref a_told_stuffed) (.ref a_told_after) (.ref a_told_weight) (.ref a_told_need)), (oX9 a_S (.ref a_S_cells) (.ref a_told) (.ref a_laws)), (a_S_cells, .inl (cI, 69, .inl o_S_cells))]) args s 0 0 A) (F0 m 2 ls []) := by
  induction n with
  | zero =>
    intro S_cells v1 H locs ls hf
    have h9 : (none : Option ((Nat → Int32))) = some o_S_cells := hf
    cases h9
  | succ n ih =>
    intro S_cells v1 H locs ls hf hw hl
    exact q_X9_cool_2 C K a_told a_told_house a_told_free a_told_stuffed a_told_after a_told_weight a_told_need a_S a_S_cells a_laws told_gloves told_matters told_pride told_coins o_S_cells  (f_X9_cool_2 told_gloves  n) ih S_cells v1 hf hw hl
set_option maxHeartbeats 4000000 in
set_option maxRecDepth 100000 in
theorem q_X9_cool_0 {p : Program} {l : Launch} {e : Env} {s : State} {m : MethodId} {args : Array Value} {below : List Frame} {meth : Method} {c : Code} {sx : List sx_T} {D : va_G} {cI cZ cO : ClassId} {A : Nat → Prop} (C : Cx p s m args meth c RX9 wsX9_cool cX9_cool 4 none) (K : Kx sx D (tyL cI cZ cO) A s) (a_told : Nat) (a_told_house : Nat) (a_told_free : Nat) (a_told_stuffed : Nat) (a_told_after : Nat) (a_told_weight : Nat) (a_told_need : Nat) (a_S : Nat) (a_S_cells : Nat) (a_laws : Nat) (told_gloves : Int32) (told_matters : Int32) (told_pride : Int32) (told_coins : Int32) (o_S_cells : Nat → Int32)    (S_cells : Nat → Int32) {H : Heap} {locs : List Loc} {ls : Array Slot} (hf : b_X9_cool_0 told_gloves  S_cells = some o_S_cells) (hw : Wo D A s [(oX5 a_told (.int told_gloves) (.int told_matters) (.int told_pride) (.int told_coins) (.ref a_told_house) (.ref a_told_free) (.ref a_told_stuffed) (.ref a_told_after) (.ref a_told_weight) (.ref a_told_need)), (oX9 a_S (.ref a_S_cells) (.ref a_told) (.ref a_laws)), (a_S_cells, .inl (cI, 69, .inl S_cells))] H locs) (hl : lv_has ls 4 [(0, .ref a_S)]) : W p l e rm_X9_cool s m args below meth c H locs 0 0 (MQ below (QcV D A [(oX5 a_told (.int told_gloves) (.int told_matters) (.int told_pride) (.int told_coins) (.ref a_told_house) (.ref a_told_free) (.ref a_told_stuffed) (.ref a_told_after) (.ref a_told_weight) (.ref a_told_need)), (oX9 a_S (.ref a_S_cells) (.ref a_told) (.ref a_laws)), (a_S_cells, .inl (cI, 69, .inl o_S_cells))]) args s 0 0 A) (F0 m 0 ls []) := by
  obtain ⟨hx, hb, hml, hown, hts, hr, hlk⟩ := id C
  obtain ⟨hK, hX, hA⟩ := id K
  unfold b_X9_cool_0 at hf
  refine lv_iconst (v := (0 : Int32)) hx hb dX9_cool_0 (by decide) ?_
  refine lv_istore_n (lv' := [(1, .int (0 : Int32)), (0, .ref a_S)]) hx hb dX9_cool_1 rfl hl (by decide) rfl (fun ls hl => ?_)
  exact qf_X9_cool_2 C K a_told a_told_house a_told_free a_told_stuffed a_told_after a_told_weight a_told_need a_S a_S_cells a_laws told_gloves told_matters told_pride told_coins o_S_cells  fu S_cells (0 : Int32) _ _ _ hf hw (lv_sub hl [1, 0] rfl)
set_option maxHeartbeats 4000000 in
set_option maxRecDepth 100000 in
theorem k_X9_cool {l : Launch} {sx : List sx_T} {D : va_G} {cI cZ cO : ClassId} (a_told : Nat) (a_told_house : Nat) (a_told_free : Nat) (a_told_stuffed : Nat) (a_told_after : Nat) (a_told_weight : Nat) (a_told_need : Nat) (a_S : Nat) (a_S_cells : Nat) (a_laws : Nat) (told_gloves : Int32) (told_matters : Int32) (told_pride : Int32) (told_coins : Int32) (o_S_cells : Nat → Int32) (S_cells : Nat → Int32) (hF : f_X9_cool told_gloves S_cells = some o_S_cells) : CtV l yX9_cool wsX9_cool rm_X9_cool sx D (tyL cI cZ cO) [.ref a_S] [(oX5 a_told (.int told_gloves) (.int told_matters) (.int told_pride) (.int told_coins) (.ref a_told_house) (.ref a_told_free) (.ref a_told_stuffed) (.ref a_told_after) (.ref a_told_weight) (.ref a_told_need)), (oX9 a_S (.ref a_S_cells) (.ref a_told) (.ref a_laws)), (a_S_cells, .inl (cI, 69, .inl S_cells))] [(oX5 a_told (.int told_gloves) (.int told_matters) (.int told_pride) (.int told_coins) (.ref a_told_house) (.ref a_told_free) (.ref a_told_stuffed) (.ref a_told_after) (.ref a_told_weight) (.ref a_told_need)), (oX9 a_S (.ref a_S_cells) (.ref a_told) (.ref a_laws)), (a_S_cells, .inl (cI, 69, .inl o_S_cells))] := by
  refine ctV_of (cc := cX9_cool) (ret := none) (maxL := 4) (by decide) rfl (Nat.le_of_ble_eq_true rfl) ?_
  intro p e s m below meth c A ls C K hw hl
  exact q_X9_cool_0 C K a_told a_told_house a_told_free a_told_stuffed a_told_after a_told_weight a_told_need a_S a_S_cells a_laws told_gloves told_matters told_pride told_coins o_S_cells S_cells hF hw (lv_sub hl [0] rfl)
abbrev rm_X9_metBits : Room := { frames := 1, cells := 0, slots := 0, locals := 21 }
theorem in_X9_metBits_X9 : ∀ w ∈ u_ws RX9 TX9 3, w ∈ wsX9_metBits := fun w h => List.mem_cons_of_mem _ (bi_wsX90 w h)
theorem in_X9_metBits_X5 : ∀ w ∈ u_ws RX5 TX5 10, w ∈ wsX9_metBits := fun w h => List.mem_cons_of_mem _ (bi_wsX50 w h)
theorem lk_X9_metBits_0 : Cond.fieldLink RX9 15 "GloveHouses$State" "told" "LGloveHouses$Peace;" ∈ wsX9_metBits := List.mem_cons_of_mem _ (bi_wsL_law0_r5 _ (List.mem_of_getElem? (i := 12) rfl))
theorem lk_X9_metBits_1 : Cond.fieldLink RX9 102 "GloveHouses$Peace" "gloves" "I" ∈ wsX9_metBits := List.mem_cons_of_mem _ (bi_wsL_law0_r37 _ (List.mem_of_getElem? (i := 4) rfl))
set_option maxHeartbeats 4000000 in
set_option maxRecDepth 100000 in
theorem q_X9_metBits_29 {p : Program} {l : Launch} {e : Env} {s : State} {m : MethodId} {args : Array Value} {below : List Frame} {meth : Method} {c : Code} {sx : List sx_T} {D : va_G} {cI cZ cO : ClassId} {A : Nat → Prop} (C : Cx p s m args meth c RX9 wsX9_metBits cX9_metBits 3 (some .int)) (K : Kx sx D (tyL cI cZ cO) A s) (a_told : Nat) (a_told_house : Nat) (a_told_free : Nat) (a_told_stuffed : Nat) (a_told_after : Nat) (a_told_weight : Nat) (a_told_need : Nat) (a_S : Nat) (a_S_cells : Nat) (a_laws : Nat) (told_gloves : Int32) (told_matters : Int32) (told_pride : Int32) (told_coins : Int32) (S_cells : Nat → Int32) (r0 : Int32)   (k4 : Int32 → Int32 → Option (Int32)) (hk4 : ∀ (v1 : Int32) (v2 : Int32) (H : Heap) (locs : List Loc) (ls : Array Slot), k4 v1 v2 = some r0 → Wo D A s [(oX5 a_told (.int told_gloves) (.int told_matters) (.int told_pride) (.int told_coins) (.ref a_told_house) (.ref a_told_free) (.ref a_told_stuffed) (.ref a_told_after) (.ref a_told_weight) (.ref a_told_need)), (oX9 a_S (.ref a_S_cells) (.ref a_told) (.ref a_laws)), (a_S_cells, .inl (cI, 69, .inl S_cells))] H locs → lv_has ls 3 [(0, .ref a_S), (1, .int v1), (2, .int v2)] → W p l e rm_X9_metBits s m args below meth c H locs 0 0 (MQ below (QcI D A r0 [(oX5 a_told (.int told_gloves) (.int told_matters) (.int told_pride) (.int told_coins) (.ref a_told_house) (.ref a_told_free) (.ref a_told_stuffed) (.ref a_told_after) (.ref a_told_weight) (.ref a_told_need)), (oX9 a_S (.ref a_S_cells) (.ref a_told) (.ref a_laws)), (a_S_cells, .inl (cI, 69, .inl S_cells))]) args s 0 0 A) (F0 m 4 ls [])) (v1 : Int32) (v2 : Int32) {H : Heap} {locs : List Loc} {ls : Array Slot} (hf : b_X9_metBits_29 told_gloves S_cells k4 v1 v2 = some r0) (hw : Wo D A s [(oX5 a_told (.int told_gloves) (.int told_matters) (.int told_pride) (.int told_coins) (.ref a_told_house) (.ref a_told_free) (.ref a_told_stuffed) (.ref a_told_after) (.ref a_told_weight) (.ref a_told_need)), (oX9 a_S (.ref a_S_cells) (.ref a_told) (.ref a_laws)), (a_S_cells, .inl (cI, 69, .inl S_cells))] H locs) (hl : lv_has ls 3 [(0, .ref a_S), (1, .int v1), (2, .int v2)]) : W p l e rm_X9_metBits s m args below meth c H locs 0 0 (MQ below (QcI D A r0 [(oX5 a_told (.int told_gloves) (.int told_matters) (.int told_pride) (.int told_coins) (.ref a_told_house) (.ref a_told_free) (.ref a_told_stuffed) (.ref a_told_after) (.ref a_told_weight) (.ref a_told_need)), (oX9 a_S (.ref a_S_cells) (.ref a_told) (.ref a_laws)), (a_S_cells, .inl (cI, 69, .inl S_cells))]) args s 0 0 A) (F0 m 29 ls []) := by
  obtain ⟨hx, hb, hml, hown, hts, hr, hlk⟩ := id C
  obtain ⟨hK, hX, hA⟩ := id K
  unfold b_X9_metBits_29 at hf
  obtain ⟨v2_1, e_v2_1, hf⟩ := bnd_some hf
  refine lv_iinc (v := v2_1) (lv' := [(2, .int v2_1), (0, .ref a_S), (1, .int v1)]) hx hb dX9_metBits_29 hl (k := 2) rfl (by rw [e_v2_1]; rfl) (by decide) rfl (fun ls hl => ?_)
  refine lv_goto (tgt := 4) hx hb dX9_metBits_32 (by decide) ?_
  exact hk4 v1 v2_1 _ _ _ hf hw (lv_sub hl [1, 2, 0] rfl)
set_option maxHeartbeats 4000000 in
set_option maxRecDepth 100000 in
theorem q_X9_metBits_4 {p : Program} {l : Launch} {e : Env} {s : State} {m : MethodId} {args : Array Value} {below : List Frame} {meth : Method} {c : Code} {sx : List sx_T} {D : va_G} {cI cZ cO : ClassId} {A : Nat → Prop} (C : Cx p s m args meth c RX9 wsX9_metBits cX9_metBits 3 (some .int)) (K : Kx sx D (tyL cI cZ cO) A s) (a_told : Nat) (a_told_house : Nat) (a_told_free : Nat) (a_told_stuffed : Nat) (a_told_after : Nat) (a_told_weight : Nat) (a_told_need : Nat) (a_S : Nat) (a_S_cells : Nat) (a_laws : Nat) (told_gloves : Int32) (told_matters : Int32) (told_pride : Int32) (told_coins : Int32) (S_cells : Nat → Int32) (r0 : Int32)   (k4 : Int32 → Int32 → Option (Int32)) (hk4 : ∀ (v1 : Int32) (v2 : Int32) (H : Heap) (locs : List Loc) (ls : Array Slot), k4 v1 v2 = some r0 → Wo D A s [(oX5 a_told (.int told_gloves) (.int told_matters) (.int told_pride) (.int told_coins) (.ref a_told_house) (.ref a_told_free) (.ref a_told_stuffed) (.ref a_told_after) (.ref a_told_weight) (.ref a_told_need)), (oX9 a_S (.ref a_S_cells) (.ref a_told) (.ref a_laws)), (a_S_cells, .inl (cI, 69, .inl S_cells))] H locs → lv_has ls 3 [(0, .ref a_S), (1, .int v1), (2, .int v2)] → W p l e rm_X9_metBits s m args below meth c H locs 0 0 (MQ below (QcI D A r0 [(oX5 a_told (.int told_gloves) (.int told_matters) (.int told_pride) (.int told_coins) (.ref a_told_house) (.ref a_told_free) (.ref a_told_stuffed) (.ref a_told_after) (.ref a_told_weight) (.ref a_told_need)), (oX9 a_S (.ref a_S_cells) (.ref a_told) (.ref a_laws)), (a_S_cells, .inl (cI, 69, .inl S_cells))]) args s 0 0 A) (F0 m 4 ls [])) (v1 : Int32) (v2 : Int32) {H : Heap} {locs : List Loc} {ls : Array Slot} (hf : b_X9_metBits_4 told_gloves S_cells k4 v1 v2 = some r0) (hw : Wo D A s [(oX5 a_told (.int told_gloves) (.int told_matters) (.int told_pride) (.int told_coins) (.ref a_told_house) (.ref a_told_free) (.ref a_told_stuffed) (.ref a_told_after) (.ref a_told_weight) (.ref a_told_need)), (oX9 a_S (.ref a_S_cells) (.ref a_told) (.ref a_laws)), (a_S_cells, .inl (cI, 69, .inl S_cells))] H locs) (hl : lv_has ls 3 [(0, .ref a_S), (1, .int v1), (2, .int v2)]) : W p l e rm_X9_metBits s m args below meth c H locs 0 0 (MQ below (QcI D A r0 [(oX5 a_told (.int told_gloves) (.int told_matters) (.int told_pride) (.int told_coins) (.ref a_told_house) (.ref a_told_free) (.ref a_told_stuffed) (.ref a_told_after) (.ref a_told_weight) (.ref a_told_need)), (oX9 a_S (.ref a_S_cells) (.ref a_told) (.ref a_laws)), (a_S_cells, .inl (cI, 69, .inl S_cells))]) args s 0 0 A) (F0 m 4 ls []) := by
  obtain ⟨hx, hb, hml, hown, hts, hr, hlk⟩ := id C
  obtain ⟨hK, hX, hA⟩ := id K
  unfold b_X9_metBits_4 at hf
  refine lv_iload_n hx hb dX9_metBits_4 rfl (lv_at hl 2 rfl) ?_
  refine lv_aload_n hx hb dX9_metBits_5 rfl (lv_at hl 0 rfl) ?_
  refine va_get (ci := 9) (v := .ref a_told) (C := RX9) (T := TX9) (N := 3) hx hb hts in_X9_metBits_X9 hown hK hw.1 1 rfl rfl 1 (by decide) (hts _ lk_X9_metBits_0) (fun _ h9 => h9) rfl dX9_metBits_6 ?_
  refine va_get (ci := 5) (v := .int told_gloves) (C := RX5) (T := TX5) (N := 10) hx hb hts in_X9_metBits_X5 hown hK hw.1 0 rfl rfl 0 (by decide) (hts _ lk_X9_metBits_1) (fun _ h9 => h9) rfl dX9_metBits_9 ?_
  refine lv_icmp_ge (tgt := 35) hx hb dX9_metBits_12 (by decide) (fun hc => ?_) (fun hc => ?_)
  · have hf := (if_pos hc).symm.trans hf
    refine lv_iload_n hx hb dX9_metBits_35 rfl (lv_at hl 1 rfl) ?_
    clear hk4; cases hf
    exact retI C hw dX9_metBits_36 rfl
  · have hf := (if_neg hc).symm.trans hf
    refine lv_aload_n hx hb dX9_metBits_15 rfl (lv_at hl 0 rfl) ?_
    refine lv_iload_n hx hb dX9_metBits_16 rfl (lv_at hl 2 rfl) ?_
    obtain ⟨r_1, hg_2, hf⟩ := ob1_some hf
    refine cl_ViA (As := [.int v2]) (rest := []) C K hw (k_X9_hasMet a_S a_S_cells a_told a_laws S_cells r_1 v2 hg_2) [1, 2] rfl (by decide) rfl rfl (ci := 9) (j := 1) rfl rfl (cwV 1 hts gX9_metBits_X9_hasMet rfl rfl rfl (by decide +kernel) ⟨Nat.le_of_ble_eq_true rfl, Nat.le_of_ble_eq_true rfl⟩) rfl hl rfl (Nat.le_of_ble_eq_true rfl) dX9_metBits_17 ⟨Nat.zero_le _, Nat.zero_le _⟩ (fun H locs hw => ?_)
    have hw : Wo D A s [(oX5 a_told (.int told_gloves) (.int told_matters) (.int told_pride) (.int told_coins) (.ref a_told_house) (.ref a_told_free) (.ref a_told_stuffed) (.ref a_told_after) (.ref a_told_weight) (.ref a_told_need)), (oX9 a_S (.ref a_S_cells) (.ref a_told) (.ref a_laws)), (a_S_cells, .inl (cI, 69, .inl S_cells))] H locs := hw
    refine lv_if_eq (tgt := 29) hx hb dX9_metBits_20 (by decide) (fun hc => ?_) (fun hc => ?_)
    · have hf := (if_pos hc).symm.trans hf
      exact q_X9_metBits_29 C K a_told a_told_house a_told_free a_told_stuffed a_told_after a_told_weight a_told_need a_S a_S_cells a_laws told_gloves told_matters told_pride told_coins S_cells r0 k4 hk4 v1 v2 hf hw (lv_sub hl [0, 1, 2] rfl)
    · have hf := (if_neg hc).symm.trans hf
      refine lv_iload_n hx hb dX9_metBits_23 rfl (lv_at hl 1 rfl) ?_
      refine lv_iconst (v := (1 : Int32)) hx hb dX9_metBits_24 (by decide) ?_
      refine lv_iload_n hx hb dX9_metBits_25 rfl (lv_at hl 2 rfl) ?_
      refine lv_ishl hx hb dX9_metBits_26 ?_
      refine lv_ior hx hb dX9_metBits_27 ?_
      obtain ⟨v1_3, e_v1_3, hf⟩ := bnd_some hf
      refine lv_nmi e_v1_3 ?_
      refine lv_istore_n (lv' := [(1, .int v1_3), (0, .ref a_S), (2, .int v2)]) hx hb dX9_metBits_28 rfl hl (by decide) rfl (fun ls hl => ?_)
      exact q_X9_metBits_29 C K a_told a_told_house a_told_free a_told_stuffed a_told_after a_told_weight a_told_need a_S a_S_cells a_laws told_gloves told_matters told_pride told_coins S_cells r0 k4 hk4 v1_3 v2 hf hw (lv_sub hl [1, 0, 2] rfl)
theorem qf_X9_metBits_4 {p : Program} {l : Launch} {e : Env} {s : State} {m : MethodId} {args : Array Value} {below : List Frame} {meth : Method} {c : Code} {sx : List sx_T} {D : va_G} {cI cZ cO : ClassId} {A : Nat → Prop} (C : Cx p s m args meth c RX9 wsX9_metBits cX9_metBits 3 (some .int)) (K : Kx sx D (tyL cI cZ cO) A s) (a_told : Nat) (a_told_house : Nat) (a_told_free : Nat) (a_told_stuffed : Nat) (a_told_after : Nat) (a_told_weight : Nat) (a_told_need : Nat) (a_S : Nat) (a_S_cells : Nat) (a_laws : Nat) (told_gloves : Int32) (told_matters : Int32) (told_pride : Int32) (told_coins : Int32) (S_cells : Nat → Int32) (r0 : Int32)    (n : Nat) : ∀ (v1 : Int32) (v2 : Int32) (H : Heap) (locs : List Loc) (ls : Array Slot), f_X9_metBits_4 told_gloves S_cells  n v1 v2 = some r0 → Wo D A s [(oX5 a_told (.int told_gloves) (.int told_matters) (.int told_pride) (.int told_coins) (.ref a_told_house) (.ref a_told_free) (.ref a_told_stuffed) (.ref a_told_after) (.ref a_told_weight) (.ref a_told_need)), (oX9 a_S (.ref a_S_cells) (.ref a_told) (.ref a_laws)), (a_S_cells, .inl (cI, 69, .inl S_cells))] H locs → lv_has ls 3 [(0, .ref a_S), (1, .int v1), (2, .int v2)] → W p l e rm_X9_metBits s m args below meth c H locs 0 0 (MQ below (QcI D A r0 [(oX5 a_told (.int told_gloves) (.int told_matters) (.int told_pride) (.int told_coins) (.ref a_told_house) (.ref a_told_free) (.ref a_told_stuffed) (.ref a_told_after) (.ref a_told_weight) (.ref a_told_need)), (oX9 a_S (.ref a_S_cells) (.ref a_told) (.ref a_laws)), (a_S_cells, .inl (cI, 69, .inl S_cells))]) args s 0 0 A) (F0 m 4 ls []) := by
  induction n with
  | zero =>
    intro v1 v2 H locs ls hf
    have h9 : (none : Option (Int32)) = some r0 := hf
    cases h9
  | succ n ih =>
    intro v1 v2 H locs ls hf hw hl
    exact q_X9_metBits_4 C K a_told a_told_house a_told_free a_told_stuffed a_told_after a_told_weight a_told_need a_S a_S_cells a_laws told_gloves told_matters told_pride told_coins S_cells r0  (f_X9_metBits_4 told_gloves S_cells  n) ih v1 v2 hf hw hl
set_option maxHeartbeats 4000000 in
set_option maxRecDepth 100000 in
theorem q_X9_metBits_0 {p : Program} {l : Launch} {e : Env} {s : State} {m : MethodId} {args : Array Value} {below : List Frame} {meth : Method} {c : Code} {sx : List sx_T} {D : va_G} {cI cZ cO : ClassId} {A : Nat → Prop} (C : Cx p s m args meth c RX9 wsX9_metBits cX9_metBits 3 (some .int)) (K : Kx sx D (tyL cI cZ cO) A s) (a_told : Nat) (a_told_house : Nat) (a_told_free : Nat) (a_told_stuffed : Nat) (a_told_after : Nat) (a_told_weight : Nat) (a_told_need : Nat) (a_S : Nat) (a_S_cells : Nat) (a_laws : Nat) (told_gloves : Int32) (told_matters : Int32) (told_pride : Int32) (told_coins : Int32) (S_cells : Nat → Int32) (r0 : Int32)     {H : Heap} {locs : List Loc} {ls : Array Slot} (hf : b_X9_metBits_0 told_gloves S_cells   = some r0) (hw : Wo D A s [(oX5 a_told (.int told_gloves) (.int told_matters) (.int told_pride) (.int told_coins) (.ref a_told_house) (.ref a_told_free) (.ref a_told_stuffed) (.ref a_told_after) (.ref a_told_weight) (.ref a_told_need)), (oX9 a_S (.ref a_S_cells) (.ref a_told) (.ref a_laws)), (a_S_cells, .inl (cI, 69, .inl S_cells))] H locs) (hl : lv_has ls 3 [(0, .ref a_S)]) : W p l e rm_X9_metBits s m args below meth c H locs 0 0 (MQ below (QcI D A r0 [(oX5 a_told (.int told_gloves) (.int told_matters) (.int told_pride) (.int told_coins) (.ref a_told_house) (.ref a_told_free) (.ref a_told_stuffed) (.ref a_told_after) (.ref a_told_weight) (.ref a_told_need)), (oX9 a_S (.ref a_S_cells) (.ref a_told) (.ref a_laws)), (a_S_cells, .inl (cI, 69, .inl S_cells))]) args s 0 0 A) (F0 m 0 ls []) := by
  obtain ⟨hx, hb, hml, hown, hts, hr, hlk⟩ := id C
  obtain ⟨hK, hX, hA⟩ := id K
  unfold b_X9_metBits_0 at hf
  refine lv_iconst (v := (0 : Int32)) hx hb dX9_metBits_0 (by decide) ?_
  refine lv_istore_n (lv' := [(1, .int (0 : Int32)), (0, .ref a_S)]) hx hb dX9_metBits_1 rfl hl (by decide) rfl (fun ls hl => ?_)
  refine lv_iconst (v := (0 : Int32)) hx hb dX9_metBits_2 (by decide) ?_
  refine lv_istore_n (lv' := [(2, .int (0 : Int32)), (1, .int (0 : Int32)), (0, .ref a_S)]) hx hb dX9_metBits_3 rfl hl (by decide) rfl (fun ls hl => ?_)
  exact qf_X9_metBits_4 C K a_told a_told_house a_told_free a_told_stuffed a_told_after a_told_weight a_told_need a_S a_S_cells a_laws told_gloves told_matters told_pride told_coins S_cells r0  fu (0 : Int32) (0 : Int32) _ _ _ hf hw (lv_sub hl [2, 1, 0] rfl)
set_option maxHeartbeats 4000000 in
set_option maxRecDepth 100000 in
theorem k_X9_metBits {l : Launch} {sx : List sx_T} {D : va_G} {cI cZ cO : ClassId} (a_told : Nat) (a_told_house : Nat) (a_told_free : Nat) (a_told_stuffed : Nat) (a_told_after : Nat) (a_told_weight : Nat) (a_told_need : Nat) (a_S : Nat) (a_S_cells : Nat) (a_laws : Nat) (told_gloves : Int32) (told_matters : Int32) (told_pride : Int32) (told_coins : Int32) (S_cells : Nat → Int32) (r0 : Int32) (hF : f_X9_metBits told_gloves S_cells = some r0) : CtI l yX9_metBits wsX9_metBits rm_X9_metBits sx D (tyL cI cZ cO) [.ref a_S] [(oX5 a_told (.int told_gloves) (.int told_matters) (.int told_pride) (.int told_coins) (.ref a_told_house) (.ref a_told_free) (.ref a_told_stuffed) (.ref a_told_after) (.ref a_told_weight) (.ref a_told_need)), (oX9 a_S (.ref a_S_cells) (.ref a_told) (.ref a_laws)), (a_S_cells, .inl (cI, 69, .inl S_cells))] r0 [(oX5 a_told (.int told_gloves) (.int told_matters) (.int told_pride) (.int told_coins) (.ref a_told_house) (.ref a_told_free) (.ref a_told_stuffed) (.ref a_told_after) (.ref a_told_weight) (.ref a_told_need)), (oX9 a_S (.ref a_S_cells) (.ref a_told) (.ref a_laws)), (a_S_cells, .inl (cI, 69, .inl S_cells))] := by
  refine ctI_of (cc := cX9_metBits) (ret := (some .int)) (maxL := 3) (by decide) rfl (Nat.le_of_ble_eq_true rfl) ?_
  intro p e s m below meth c A ls C K hw hl
  exact q_X9_metBits_0 C K a_told a_told_house a_told_free a_told_stuffed a_told_after a_told_weight a_told_need a_S a_S_cells a_laws told_gloves told_matters told_pride told_coins S_cells r0  hF hw (lv_sub hl [0] rfl)
abbrev rm_X9_signedToday : Room := { frames := 0, cells := 0, slots := 0, locals := 0 }
theorem in_X9_signedToday_X9 : ∀ w ∈ u_ws RX9 TX9 3, w ∈ wsX9_signedToday := fun w h => List.mem_cons_of_mem _ (bi_wsX90 w h)
theorem lk_X9_signedToday_0 : Cond.fieldLink RX9 11 "GloveHouses$State" "cells" "[I" ∈ wsX9_signedToday := List.mem_cons_of_mem _ (bi_wsL_law0_r5 _ (List.mem_of_getElem? (i := 11) rfl))
set_option maxHeartbeats 4000000 in
set_option maxRecDepth 100000 in
theorem q_X9_signedToday_0 {p : Program} {l : Launch} {e : Env} {s : State} {m : MethodId} {args : Array Value} {below : List Frame} {meth : Method} {c : Code} {sx : List sx_T} {D : va_G} {cI cZ cO : ClassId} {A : Nat → Prop} (C : Cx p s m args meth c RX9 wsX9_signedToday cX9_signedToday 1 (some .int)) (K : Kx sx D (tyL cI cZ cO) A s) (a_S : Nat) (a_S_cells : Nat) (a_told : Nat) (a_laws : Nat) (S_cells : Nat → Int32) (r0 : Int32)     {H : Heap} {locs : List Loc} {ls : Array Slot} (hf : b_X9_signedToday_0 S_cells   = some r0) (hw : Wo D A s [(oX9 a_S (.ref a_S_cells) (.ref a_told) (.ref a_laws)), (a_S_cells, .inl (cI, 69, .inl S_cells))] H locs) (hl : lv_has ls 1 [(0, .ref a_S)]) : W p l e rm_X9_signedToday s m args below meth c H locs 0 0 (MQ below (QcI D A r0 [(oX9 a_S (.ref a_S_cells) (.ref a_told) (.ref a_laws)), (a_S_cells, .inl (cI, 69, .inl S_cells))]) args s 0 0 A) (F0 m 0 ls []) := by
  obtain ⟨hx, hb, hml, hown, hts, hr, hlk⟩ := id C
  obtain ⟨hK, hX, hA⟩ := id K
  unfold b_X9_signedToday_0 at hf
  refine lv_aload_n hx hb dX9_signedToday_0 rfl (lv_at hl 0 rfl) ?_
  refine va_get (ci := 9) (v := .ref a_S_cells) (C := RX9) (T := TX9) (N := 3) hx hb hts in_X9_signedToday_X9 hown hK hw.1 0 rfl rfl 0 (by decide) (hts _ lk_X9_signedToday_0) (fun _ h9 => h9) rfl dX9_signedToday_1 ?_
  refine lv_bipush (v := (65 : Int32)) hx hb dX9_signedToday_4 (by decide) ?_
  obtain ⟨hc_1, hf⟩ := gd_some hf
  refine va_iald hx hb hK hw.1 1 0 rfl rfl (inB_in hc_1) dX9_signedToday_6 ?_
  cases hf
  exact retI C hw dX9_signedToday_7 rfl
set_option maxHeartbeats 4000000 in
set_option maxRecDepth 100000 in
theorem k_X9_signedToday {l : Launch} {sx : List sx_T} {D : va_G} {cI cZ cO : ClassId} (a_S : Nat) (a_S_cells : Nat) (a_told : Nat) (a_laws : Nat) (S_cells : Nat → Int32) (r0 : Int32) (hF : f_X9_signedToday S_cells = some r0) : CtI l yX9_signedToday wsX9_signedToday rm_X9_signedToday sx D (tyL cI cZ cO) [.ref a_S] [(oX9 a_S (.ref a_S_cells) (.ref a_told) (.ref a_laws)), (a_S_cells, .inl (cI, 69, .inl S_cells))] r0 [(oX9 a_S (.ref a_S_cells) (.ref a_told) (.ref a_laws)), (a_S_cells, .inl (cI, 69, .inl S_cells))] := by
  refine ctI_of (cc := cX9_signedToday) (ret := (some .int)) (maxL := 1) (by decide) rfl (Nat.le_of_ble_eq_true rfl) ?_
  intro p e s m below meth c A ls C K hw hl
  exact q_X9_signedToday_0 C K a_S a_S_cells a_told a_laws S_cells r0  hF hw (lv_sub hl [0] rfl)
abbrev rm_X9_warmthOfAll : Room := { frames := 0, cells := 0, slots := 0, locals := 0 }
theorem in_X9_warmthOfAll_X9 : ∀ w ∈ u_ws RX9 TX9 3, w ∈ wsX9_warmthOfAll := fun w h => List.mem_cons_of_mem _ (bi_wsX90 w h)
theorem lk_X9_warmthOfAll_0 : Cond.fieldLink RX9 11 "GloveHouses$State" "cells" "[I" ∈ wsX9_warmthOfAll := List.mem_cons_of_mem _ (bi_wsL_law0_r5 _ (List.mem_of_getElem? (i := 11) rfl))
set_option maxHeartbeats 4000000 in
set_option maxRecDepth 100000 in
theorem q_X9_warmthOfAll_4 {p : Program} {l : Launch} {e : Env} {s : State} {m : MethodId} {args : Array Value} {below : List Frame} {meth : Method} {c : Code} {sx : List sx_T} {D : va_G} {cI cZ cO : ClassId} {A : Nat → Prop} (C : Cx p s m args meth c RX9 wsX9_warmthOfAll cX9_warmthOfAll 3 (some .int)) (K : Kx sx D (tyL cI cZ cO) A s) (a_S : Nat) (a_S_cells : Nat) (a_told : Nat) (a_laws : Nat) (S_cells : Nat → Int32) (r0 : Int32)   (k4 : Int32 → Int32 → Option (Int32)) (hk4 : ∀ (v1 : Int32) (v2 : Int32) (H : Heap) (locs : List Loc) (ls : Array Slot), k4 v1 v2 = some r0 → Wo D A s [(oX9 a_S (.ref a_S_cells) (.ref a_told) (.ref a_laws)), (a_S_cells, .inl (cI, 69, .inl S_cells))] H locs → lv_has ls 3 [(0, .ref a_S), (1, .int v1), (2, .int v2)] → W p l e rm_X9_warmthOfAll s m args below meth c H locs 0 0 (MQ below (QcI D A r0 [(oX9 a_S (.ref a_S_cells) (.ref a_told) (.ref a_laws)), (a_S_cells, .inl (cI, 69, .inl S_cells))]) args s 0 0 A) (F0 m 4 ls [])) (v1 : Int32) (v2 : Int32) {H : Heap} {locs : List Loc} {ls : Array Slot} (hf : b_X9_warmthOfAll_4 S_cells k4 v1 v2 = some r0) (hw : Wo D A s [(oX9 a_S (.ref a_S_cells) (.ref a_told) (.ref a_laws)), (a_S_cells, .inl (cI, 69, .inl S_cells))] H locs) (hl : lv_has ls 3 [(0, .ref a_S), (1, .int v1), (2, .int v2)]) : W p l e rm_X9_warmthOfAll s m args below meth c H locs 0 0 (MQ below (QcI D A r0 [(oX9 a_S (.ref a_S_cells) (.ref a_told) (.ref a_laws)), (a_S_cells, .inl (cI, 69, .inl S_cells))]) args s 0 0 A) (F0 m 4 ls []) := by
  obtain ⟨hx, hb, hml, hown, hts, hr, hlk⟩ := id C
  obtain ⟨hK, hX, hA⟩ := id K
  unfold b_X9_warmthOfAll_4 at hf
  refine lv_iload_n hx hb dX9_warmthOfAll_4 rfl (lv_at hl 2 rfl) ?_
  refine lv_bipush (v := (36 : Int32)) hx hb dX9_warmthOfAll_5 (by decide) ?_
  refine lv_icmp_ge (tgt := 25) hx hb dX9_warmthOfAll_7 (by decide) (fun hc => ?_) (fun hc => ?_)
  · have hf := (if_pos hc).symm.trans hf
    refine lv_iload_n hx hb dX9_warmthOfAll_25 rfl (lv_at hl 1 rfl) ?_
    clear hk4; cases hf
    exact retI C hw dX9_warmthOfAll_26 rfl
  · have hf := (if_neg hc).symm.trans hf
    refine lv_iload_n hx hb dX9_warmthOfAll_10 rfl (lv_at hl 1 rfl) ?_
    refine lv_aload_n hx hb dX9_warmthOfAll_11 rfl (lv_at hl 0 rfl) ?_
    refine va_get (ci := 9) (v := .ref a_S_cells) (C := RX9) (T := TX9) (N := 3) hx hb hts in_X9_warmthOfAll_X9 hown hK hw.1 0 rfl rfl 0 (by decide) (hts _ lk_X9_warmthOfAll_0) (fun _ h9 => h9) rfl dX9_warmthOfAll_12 ?_
    refine lv_iload_n hx hb dX9_warmthOfAll_15 rfl (lv_at hl 2 rfl) ?_
    obtain ⟨hc_1, hf⟩ := gd_some hf
    refine va_iald hx hb hK hw.1 1 0 rfl rfl (inB_in hc_1) dX9_warmthOfAll_16 ?_
    refine lv_iadd hx hb dX9_warmthOfAll_17 ?_
    obtain ⟨v1_2, e_v1_2, hf⟩ := bnd_some hf
    refine lv_nmi e_v1_2 ?_
    refine lv_istore_n (lv' := [(1, .int v1_2), (0, .ref a_S), (2, .int v2)]) hx hb dX9_warmthOfAll_18 rfl hl (by decide) rfl (fun ls hl => ?_)
    obtain ⟨v2_3, e_v2_3, hf⟩ := bnd_some hf
    refine lv_iinc (v := v2_3) (lv' := [(2, .int v2_3), (1, .int v1_2), (0, .ref a_S)]) hx hb dX9_warmthOfAll_19 hl (k := 2) rfl (by rw [e_v2_3]; rfl) (by decide) rfl (fun ls hl => ?_)
    refine lv_goto (tgt := 4) hx hb dX9_warmthOfAll_22 (by decide) ?_
    exact hk4 v1_2 v2_3 _ _ _ hf hw (lv_sub hl [2, 1, 0] rfl)
theorem qf_X9_warmthOfAll_4 {p : Program} {l : Launch} {e : Env} {s : State} {m : MethodId} {args : Array Value} {below : List Frame} {meth : Method} {c : Code} {sx : List sx_T} {D : va_G} {cI cZ cO : ClassId} {A : Nat → Prop} (C : Cx p s m args meth c RX9 wsX9_warmthOfAll cX9_warmthOfAll 3 (some .int)) (K : Kx sx D (tyL cI cZ cO) A s) (a_S : Nat) (a_S_cells : Nat) (a_told : Nat) (a_laws : Nat) (S_cells : Nat → Int32) (r0 : Int32)    (n : Nat) : ∀ (v1 : Int32) (v2 : Int32) (H : Heap) (locs : List Loc) (ls : Array Slot), f_X9_warmthOfAll_4 S_cells  n v1 v2 = some r0 → Wo D A s [(oX9 a_S (.ref a_S_cells) (.ref a_told) (.ref a_laws)), (a_S_cells, .inl (cI, 69, .inl S_cells))] H locs → lv_has ls 3 [(0, .ref a_S), (1, .int v1), (2, .int v2)] → W p l e rm_X9_warmthOfAll s m args below meth c H locs 0 0 (MQ below (QcI D A r0 [(oX9 a_S (.ref a_S_cells) (.ref a_told) (.ref a_laws)), (a_S_cells, .inl (cI, 69, .inl S_cells))]) args s 0 0 A) (F0 m 4 ls []) := by
  induction n with
  | zero =>
    intro v1 v2 H locs ls hf
    have h9 : (none : Option (Int32)) = some r0 := hf
    cases h9
  | succ n ih =>
    intro v1 v2 H locs ls hf hw hl
    exact q_X9_warmthOfAll_4 C K a_S a_S_cells a_told a_laws S_cells r0  (f_X9_warmthOfAll_4 S_cells  n) ih v1 v2 hf hw hl
set_option maxHeartbeats 4000000 in
set_option maxRecDepth 100000 in
theorem q_X9_warmthOfAll_0 {p : Program} {l : Launch} {e : Env} {s : State} {m : MethodId} {args : Array Value} {below : List Frame} {meth : Method} {c : Code} {sx : List sx_T} {D : va_G} {cI cZ cO : ClassId} {A : Nat → Prop} (C : Cx p s m args meth c RX9 wsX9_warmthOfAll cX9_warmthOfAll 3 (some .int)) (K : Kx sx D (tyL cI cZ cO) A s) (a_S : Nat) (a_S_cells : Nat) (a_told : Nat) (a_laws : Nat) (S_cells : Nat → Int32) (r0 : Int32)     {H : Heap} {locs : List Loc} {ls : Array Slot} (hf : b_X9_warmthOfAll_0 S_cells   = some r0) (hw : Wo D A s [(oX9 a_S (.ref a_S_cells) (.ref a_told) (.ref a_laws)), (a_S_cells, .inl (cI, 69, .inl S_cells))] H locs) (hl : lv_has ls 3 [(0, .ref a_S)]) : W p l e rm_X9_warmthOfAll s m args below meth c H locs 0 0 (MQ below (QcI D A r0 [(oX9 a_S (.ref a_S_cells) (.ref a_told) (.ref a_laws)), (a_S_cells, .inl (cI, 69, .inl S_cells))]) args s 0 0 A) (F0 m 0 ls []) := by
  obtain ⟨hx, hb, hml, hown, hts, hr, hlk⟩ := id C
  obtain ⟨hK, hX, hA⟩ := id K
  unfold b_X9_warmthOfAll_0 at hf
  refine lv_iconst (v := (0 : Int32)) hx hb dX9_warmthOfAll_0 (by decide) ?_
  refine lv_istore_n (lv' := [(1, .int (0 : Int32)), (0, .ref a_S)]) hx hb dX9_warmthOfAll_1 rfl hl (by decide) rfl (fun ls hl => ?_)
  refine lv_iconst (v := (0 : Int32)) hx hb dX9_warmthOfAll_2 (by decide) ?_
  refine lv_istore_n (lv' := [(2, .int (0 : Int32)), (1, .int (0 : Int32)), (0, .ref a_S)]) hx hb dX9_warmthOfAll_3 rfl hl (by decide) rfl (fun ls hl => ?_)
  exact qf_X9_warmthOfAll_4 C K a_S a_S_cells a_told a_laws S_cells r0  fu (0 : Int32) (0 : Int32) _ _ _ hf hw (lv_sub hl [2, 1, 0] rfl)
set_option maxHeartbeats 4000000 in
set_option maxRecDepth 100000 in
theorem k_X9_warmthOfAll {l : Launch} {sx : List sx_T} {D : va_G} {cI cZ cO : ClassId} (a_S : Nat) (a_S_cells : Nat) (a_told : Nat) (a_laws : Nat) (S_cells : Nat → Int32) (r0 : Int32) (hF : f_X9_warmthOfAll S_cells = some r0) : CtI l yX9_warmthOfAll wsX9_warmthOfAll rm_X9_warmthOfAll sx D (tyL cI cZ cO) [.ref a_S] [(oX9 a_S (.ref a_S_cells) (.ref a_told) (.ref a_laws)), (a_S_cells, .inl (cI, 69, .inl S_cells))] r0 [(oX9 a_S (.ref a_S_cells) (.ref a_told) (.ref a_laws)), (a_S_cells, .inl (cI, 69, .inl S_cells))] := by
  refine ctI_of (cc := cX9_warmthOfAll) (ret := (some .int)) (maxL := 3) (by decide) rfl (Nat.le_of_ble_eq_true rfl) ?_
  intro p e s m below meth c A ls C K hw hl
  exact q_X9_warmthOfAll_0 C K a_S a_S_cells a_told a_laws S_cells r0  hF hw (lv_sub hl [0] rfl)
abbrev rm_X9_dawn : Room := { frames := 0, cells := 0, slots := 0, locals := 0 }
theorem in_X9_dawn_X9 : ∀ w ∈ u_ws RX9 TX9 3, w ∈ wsX9_dawn := fun w h => List.mem_cons_of_mem _ (bi_wsX90 w h)
theorem lk_X9_dawn_0 : Cond.fieldLink RX9 11 "GloveHouses$State" "cells" "[I" ∈ wsX9_dawn := List.mem_cons_of_mem _ (bi_wsL_law0_r5 _ (List.mem_of_getElem? (i := 11) rfl))
set_option maxHeartbeats 4000000 in
set_option maxRecDepth 100000 in
theorem q_X9_dawn_2 {p : Program} {l : Launch} {e : Env} {s : State} {m : MethodId} {args : Array Value} {below : List Frame} {meth : Method} {c : Code} {sx : List sx_T} {D : va_G} {cI cZ cO : ClassId} {A : Nat → Prop} (C : Cx p s m args meth c RX9 wsX9_dawn cX9_dawn 2 none) (K : Kx sx D (tyL cI cZ cO) A s) (a_S : Nat) (a_S_cells : Nat) (a_told : Nat) (a_laws : Nat) (o_S_cells : Nat → Int32)   (k2 : (Nat → Int32) → Int32 → Option ((Nat → Int32))) (hk2 : ∀ (S_cells : Nat → Int32) (v1 : Int32) (H : Heap) (locs : List Loc) (ls : Array Slot), k2 S_cells v1 = some o_S_cells → Wo D A s [(oX9 a_S (.ref a_S_cells) (.ref a_told) (.ref a_laws)), (a_S_cells, .inl (cI, 69, .inl S_cells))] H locs → lv_has ls 2 [(0, .ref a_S), (1, .int v1)] → W p l e rm_X9_dawn s m args below meth c H locs 0 0 (MQ below (QcV D A [(oX9 a_S (.ref a_S_cells) (.ref a_told) (.ref a_laws)), (a_S_cells, .inl (cI, 69, .inl o_S_cells))]) args s 0 0 A) (F0 m 2 ls [])) (S_cells : Nat → Int32) (v1 : Int32) {H : Heap} {locs : List Loc} {ls : Array Slot} (hf : b_X9_dawn_2  k2 S_cells v1 = some o_S_cells) (hw : Wo D A s [(oX9 a_S (.ref a_S_cells) (.ref a_told) (.ref a_laws)), (a_S_cells, .inl (cI, 69, .inl S_cells))] H locs) (hl : lv_has ls 2 [(0, .ref a_S), (1, .int v1)]) : W p l e rm_X9_dawn s m args below meth c H locs 0 0 (MQ below (QcV D A [(oX9 a_S (.ref a_S_cells) (.ref a_told) (.ref a_laws)), (a_S_cells, .inl (cI, 69, .inl o_S_cells))]) args s 0 0 A) (F0 m 2 ls []) := by
  obtain ⟨hx, hb, hml, hown, hts, hr, hlk⟩ := id C
  obtain ⟨hK, hX, hA⟩ := id K
  unfold b_X9_dawn_2 at hf
  refine lv_iload_n hx hb dX9_dawn_2 rfl (lv_at hl 1 rfl) ?_
  refine lv_bipush (v := (6 : Int32)) hx hb dX9_dawn_3 (by decide) ?_
  refine lv_icmp_ge (tgt := 24) hx hb dX9_dawn_5 (by decide) (fun hc => ?_) (fun hc => ?_)
  · have hf := (if_pos hc).symm.trans hf
    refine lv_aload_n hx hb dX9_dawn_24 rfl (lv_at hl 0 rfl) ?_
    refine va_get (ci := 9) (v := .ref a_S_cells) (C := RX9) (T := TX9) (N := 3) hx hb hts in_X9_dawn_X9 hown hK hw.1 0 rfl rfl 0 (by decide) (hts _ lk_X9_dawn_0) (fun _ h9 => h9) rfl dX9_dawn_25 ?_
    refine lv_bipush (v := (65 : Int32)) hx hb dX9_dawn_28 (by decide) ?_
    refine lv_iconst (v := (0 : Int32)) hx hb dX9_dawn_30 (by decide) ?_
    obtain ⟨hc_1, hf⟩ := gd_some hf
    obtain ⟨S_cells_2, e_S_cells_2, hf⟩ := bnd_some hf
    refine va_iast hx hb hK hw.1 hw.2.1 hw.2.2 1 0 rfl rfl (inB_in hc_1) dX9_dawn_31 (fun H locs hP hD hS => ?_)
    have hw : Wo D A s [(oX9 a_S (.ref a_S_cells) (.ref a_told) (.ref a_laws)), (a_S_cells, .inl (cI, 69, .inl S_cells_2))] H locs := by rw [e_S_cells_2]; exact ⟨hP, hD, hS⟩
    refine lv_aload_n hx hb dX9_dawn_32 rfl (lv_at hl 0 rfl) ?_
    refine va_get (ci := 9) (v := .ref a_S_cells) (C := RX9) (T := TX9) (N := 3) hx hb hts in_X9_dawn_X9 hown hK hw.1 0 rfl rfl 0 (by decide) (hts _ lk_X9_dawn_0) (fun _ h9 => h9) rfl dX9_dawn_33 ?_
    refine lv_bipush (v := (68 : Int32)) hx hb dX9_dawn_36 (by decide) ?_
    refine lv_dup2_11 hx hb dX9_dawn_38 rfl rfl ?_
    obtain ⟨hc_3, hf⟩ := gd_some hf
    refine va_iald hx hb hK hw.1 1 0 rfl rfl (inB_in hc_3) dX9_dawn_39 ?_
    refine lv_iconst (v := (1 : Int32)) hx hb dX9_dawn_40 (by decide) ?_
    refine lv_iadd hx hb dX9_dawn_41 ?_
    obtain ⟨hc_4, hf⟩ := gd_some hf
    obtain ⟨S_cells_5, e_S_cells_5, hf⟩ := bnd_some hf
    refine va_iast hx hb hK hw.1 hw.2.1 hw.2.2 1 0 rfl rfl (inB_in hc_4) dX9_dawn_42 (fun H locs hP hD hS => ?_)
    have hw : Wo D A s [(oX9 a_S (.ref a_S_cells) (.ref a_told) (.ref a_laws)), (a_S_cells, .inl (cI, 69, .inl S_cells_5))] H locs := by rw [e_S_cells_5]; exact ⟨hP, hD, hS⟩
    clear hk2; cases hf
    exact retV C hw dX9_dawn_43
  · have hf := (if_neg hc).symm.trans hf
    refine lv_aload_n hx hb dX9_dawn_8 rfl (lv_at hl 0 rfl) ?_
    refine va_get (ci := 9) (v := .ref a_S_cells) (C := RX9) (T := TX9) (N := 3) hx hb hts in_X9_dawn_X9 hown hK hw.1 0 rfl rfl 0 (by decide) (hts _ lk_X9_dawn_0) (fun _ h9 => h9) rfl dX9_dawn_9 ?_
    refine lv_bipush (v := (54 : Int32)) hx hb dX9_dawn_12 (by decide) ?_
    refine lv_iload_n hx hb dX9_dawn_14 rfl (lv_at hl 1 rfl) ?_
    refine lv_iadd hx hb dX9_dawn_15 ?_
    refine lv_iconst (v := (-1 : Int32)) hx hb dX9_dawn_16 (by decide) ?_
    obtain ⟨hc_6, hf⟩ := gd_some hf
    obtain ⟨S_cells_7, e_S_cells_7, hf⟩ := bnd_some hf
    refine va_iast hx hb hK hw.1 hw.2.1 hw.2.2 1 0 rfl rfl (inB_in hc_6) dX9_dawn_17 (fun H locs hP hD hS => ?_)
    have hw : Wo D A s [(oX9 a_S (.ref a_S_cells) (.ref a_told) (.ref a_laws)), (a_S_cells, .inl (cI, 69, .inl S_cells_7))] H locs := by rw [e_S_cells_7]; exact ⟨hP, hD, hS⟩
    obtain ⟨v1_8, e_v1_8, hf⟩ := bnd_some hf
    refine lv_iinc (v := v1_8) (lv' := [(1, .int v1_8), (0, .ref a_S)]) hx hb dX9_dawn_18 hl (k := 1) rfl (by rw [e_v1_8]; rfl) (by decide) rfl (fun ls hl => ?_)
    refine lv_goto (tgt := 2) hx hb dX9_dawn_21 (by decide) ?_
    exact hk2 S_cells_7 v1_8 _ _ _ hf hw (lv_sub hl [1, 0] rfl)
theorem qf_X9_dawn_2 {p : Program} {l : Launch} {e : Env} {s : State} {m : MethodId} {args : Array Value} {below : List Frame} {meth : Method} {c : Code} {sx : List sx_T} {D : va_G} {cI cZ cO : ClassId} {A : Nat → Prop} (C : Cx p s m args meth c RX9 wsX9_dawn cX9_dawn 2 none) (K : Kx sx D (tyL cI cZ cO) A s) (a_S : Nat) (a_S_cells : Nat) (a_told : Nat) (a_laws : Nat) (o_S_cells : Nat → Int32)    (n : Nat) : ∀ (S_cells : Nat → Int32) (v1 : Int32) (H : Heap) (locs : List Loc) (ls : Array Slot), f_X9_dawn_2   n S_cells v1 = some o_S_cells → Wo D A s [(oX9 a_S (.ref a_S_cells) (.ref a_told) (.ref a_laws)), (a_S_cells, .inl (cI, 69, .inl S_cells))] H locs → lv_has ls 2 [(0, .ref a_S), (1, .int v1)] → W p l e rm_X9_dawn s m args below meth c H locs 0 0 (MQ below (QcV D A [(oX9 a_S (.ref a_S_cells) (.ref a_told) (.ref a_laws)), (a_S_cells, .inl (cI, 69, .inl o_S_cells))]) args s 0 0 A) (F0 m 2 ls []) := by
  induction n with
  | zero =>
    intro S_cells v1 H locs ls hf
    have h9 : (none : Option ((Nat → Int32))) = some o_S_cells := hf
    cases h9
  | succ n ih =>
    intro S_cells v1 H locs ls hf hw hl
    exact q_X9_dawn_2 C K a_S a_S_cells a_told a_laws o_S_cells  (f_X9_dawn_2   n) ih S_cells v1 hf hw hl
set_option maxHeartbeats 4000000 in
set_option maxRecDepth 100000 in
theorem q_X9_dawn_0 {p : Program} {l : Launch} {e : Env} {s : State} {m : MethodId} {args : Array Value} {below : List Frame} {meth : Method} {c : Code} {sx : List sx_T} {D : va_G} {cI cZ cO : ClassId} {A : Nat → Prop} (C : Cx p s m args meth c RX9 wsX9_dawn cX9_dawn 2 none) (K : Kx sx D (tyL cI cZ cO) A s) (a_S : Nat) (a_S_cells : Nat) (a_told : Nat) (a_laws : Nat) (o_S_cells : Nat → Int32)    (S_cells : Nat → Int32) {H : Heap} {locs : List Loc} {ls : Array Slot} (hf : b_X9_dawn_0   S_cells = some o_S_cells) (hw : Wo D A s [(oX9 a_S (.ref a_S_cells) (.ref a_told) (.ref a_laws)), (a_S_cells, .inl (cI, 69, .inl S_cells))] H locs) (hl : lv_has ls 2 [(0, .ref a_S)]) : W p l e rm_X9_dawn s m args below meth c H locs 0 0 (MQ below (QcV D A [(oX9 a_S (.ref a_S_cells) (.ref a_told) (.ref a_laws)), (a_S_cells, .inl (cI, 69, .inl o_S_cells))]) args s 0 0 A) (F0 m 0 ls []) := by
  obtain ⟨hx, hb, hml, hown, hts, hr, hlk⟩ := id C
  obtain ⟨hK, hX, hA⟩ := id K
  unfold b_X9_dawn_0 at hf
  refine lv_iconst (v := (0 : Int32)) hx hb dX9_dawn_0 (by decide) ?_
  refine lv_istore_n (lv' := [(1, .int (0 : Int32)), (0, .ref a_S)]) hx hb dX9_dawn_1 rfl hl (by decide) rfl (fun ls hl => ?_)
  exact qf_X9_dawn_2 C K a_S a_S_cells a_told a_laws o_S_cells  fu S_cells (0 : Int32) _ _ _ hf hw (lv_sub hl [1, 0] rfl)
set_option maxHeartbeats 4000000 in
set_option maxRecDepth 100000 in
theorem k_X9_dawn {l : Launch} {sx : List sx_T} {D : va_G} {cI cZ cO : ClassId} (a_S : Nat) (a_S_cells : Nat) (a_told : Nat) (a_laws : Nat) (o_S_cells : Nat → Int32) (S_cells : Nat → Int32) (hF : f_X9_dawn S_cells = some o_S_cells) : CtV l yX9_dawn wsX9_dawn rm_X9_dawn sx D (tyL cI cZ cO) [.ref a_S] [(oX9 a_S (.ref a_S_cells) (.ref a_told) (.ref a_laws)), (a_S_cells, .inl (cI, 69, .inl S_cells))] [(oX9 a_S (.ref a_S_cells) (.ref a_told) (.ref a_laws)), (a_S_cells, .inl (cI, 69, .inl o_S_cells))] := by
  refine ctV_of (cc := cX9_dawn) (ret := none) (maxL := 2) (by decide) rfl (Nat.le_of_ble_eq_true rfl) ?_
  intro p e s m below meth c A ls C K hw hl
  exact q_X9_dawn_0 C K a_S a_S_cells a_told a_laws o_S_cells S_cells hF hw (lv_sub hl [0] rfl)
abbrev rm_X9_riseOf : Room := { frames := 4, cells := 0, slots := 0, locals := 102 }
set_option maxHeartbeats 4000000 in
set_option maxRecDepth 100000 in
theorem q_X9_riseOf_0 {p : Program} {l : Launch} {e : Env} {s : State} {m : MethodId} {args : Array Value} {below : List Frame} {meth : Method} {c : Code} {sx : List sx_T} {D : va_G} {cI cZ cO : ClassId} {A : Nat → Prop} (C : Cx p s m args meth c RX9 wsX9_riseOf cX9_riseOf 3 (some .int)) (K : Kx sx D (tyL cI cZ cO) A s) (a_told : Nat) (a_told_house : Nat) (a_told_free : Nat) (a_told_stuffed : Nat) (a_told_after : Nat) (a_told_weight : Nat) (a_told_need : Nat) (a_laws : Nat) (a_laws_codes : Nat) (a_laws_lengths : Nat) (a_laws_letters : Nat) (a_laws_stack : Nat) (a_S : Nat) (a_S_cells : Nat) (rw : Nat → Nat) (told_gloves : Int32) (told_matters : Int32) (told_pride : Int32) (told_coins : Int32) (told_after : Nat → Int32) (laws_size : Int32) (laws_holds : Int32) (laws_lengths : Nat → Int32) (laws_c0 : Nat → Int32) (laws_c1 : Nat → Int32) (laws_c2 : Nat → Int32) (laws_c3 : Nat → Int32) (S_cells : Nat → Int32) (r0 : Int32) (o_laws_letters : Nat → Int32) (o_laws_stack : Nat → Int32)    (laws_letters : Nat → Int32) (laws_stack : Nat → Int32) (v1 : Int32) (v2 : Int32) {H : Heap} {locs : List Loc} {ls : Array Slot} (hf : b_X9_riseOf_0 told_after laws_holds laws_lengths laws_c0 laws_c1 laws_c2 laws_c3 S_cells  laws_letters laws_stack v1 v2 = some (r0, o_laws_letters, o_laws_stack)) (hw : Wo D A s [(oX5 a_told (.int told_gloves) (.int told_matters) (.int told_pride) (.int told_coins) (.ref a_told_house) (.ref a_told_free) (.ref a_told_stuffed) (.ref a_told_after) (.ref a_told_weight) (.ref a_told_need)), (a_told_after, .inl (cI, 6, .inl told_after)), (oX2 a_laws (.int laws_size) (.int laws_holds) (.ref a_laws_codes) (.ref a_laws_lengths) (.ref a_laws_letters) (.ref a_laws_stack)), (a_laws_codes, .inl (cO, 4, .inr (.inr (.inr (.inr (rwF rw)))))), (a_laws_lengths, .inl (cI, 4, .inl laws_lengths)), (a_laws_letters, .inl (cI, 6, .inl laws_letters)), (a_laws_stack, .inl (cI, 241, .inl laws_stack)), ((rw 0), .inl (cI, 241, .inl laws_c0)), ((rw 1), .inl (cI, 241, .inl laws_c1)), ((rw 2), .inl (cI, 241, .inl laws_c2)), ((rw 3), .inl (cI, 241, .inl laws_c3)), (oX9 a_S (.ref a_S_cells) (.ref a_told) (.ref a_laws)), (a_S_cells, .inl (cI, 69, .inl S_cells))] H locs) (hl : lv_has ls 3 [(0, .ref a_S), (1, .int v1), (2, .int v2)]) : W p l e rm_X9_riseOf s m args below meth c H locs 0 0 (MQ below (QcI D A r0 [(oX5 a_told (.int told_gloves) (.int told_matters) (.int told_pride) (.int told_coins) (.ref a_told_house) (.ref a_told_free) (.ref a_told_stuffed) (.ref a_told_after) (.ref a_told_weight) (.ref a_told_need)), (a_told_after, .inl (cI, 6, .inl told_after)), (oX2 a_laws (.int laws_size) (.int laws_holds) (.ref a_laws_codes) (.ref a_laws_lengths) (.ref a_laws_letters) (.ref a_laws_stack)), (a_laws_codes, .inl (cO, 4, .inr (.inr (.inr (.inr (rwF rw)))))), (a_laws_lengths, .inl (cI, 4, .inl laws_lengths)), (a_laws_letters, .inl (cI, 6, .inl o_laws_letters)), (a_laws_stack, .inl (cI, 241, .inl o_laws_stack)), ((rw 0), .inl (cI, 241, .inl laws_c0)), ((rw 1), .inl (cI, 241, .inl laws_c1)), ((rw 2), .inl (cI, 241, .inl laws_c2)), ((rw 3), .inl (cI, 241, .inl laws_c3)), (oX9 a_S (.ref a_S_cells) (.ref a_told) (.ref a_laws)), (a_S_cells, .inl (cI, 69, .inl S_cells))]) args s 0 0 A) (F0 m 0 ls []) := by
  obtain ⟨hx, hb, hml, hown, hts, hr, hlk⟩ := id C
  obtain ⟨hK, hX, hA⟩ := id K
  unfold b_X9_riseOf_0 at hf
  refine lv_aload_n hx hb dX9_riseOf_0 rfl (lv_at hl 0 rfl) ?_
  refine lv_iload_n hx hb dX9_riseOf_1 rfl (lv_at hl 1 rfl) ?_
  refine lv_iload_n hx hb dX9_riseOf_2 rfl (lv_at hl 2 rfl) ?_
  refine lv_aload_n hx hb dX9_riseOf_3 rfl (lv_at hl 0 rfl) ?_
  refine lv_iload_n hx hb dX9_riseOf_4 rfl (lv_at hl 1 rfl) ?_
  refine lv_iload_n hx hb dX9_riseOf_5 rfl (lv_at hl 2 rfl) ?_
  obtain ⟨r_1, hg_2, hf⟩ := ob1_some hf
  refine cl_ViA (As := [.int v1, .int v2]) (rest := [.int v2, .int v1, .ref a_S]) C K hw (k_X9_warmthOf a_S a_S_cells a_told a_laws S_cells r_1 v1 v2 hg_2) [11, 12] rfl (by decide) rfl rfl (ci := 9) (j := 11) rfl rfl (cwV 2 hts gX9_riseOf_X9_warmthOf rfl rfl rfl (by decide +kernel) ⟨Nat.le_of_ble_eq_true rfl, Nat.le_of_ble_eq_true rfl⟩) rfl hl rfl (Nat.le_of_ble_eq_true rfl) dX9_riseOf_6 ⟨Nat.zero_le _, Nat.zero_le _⟩ (fun H locs hw => ?_)
  have hw : Wo D A s [(oX5 a_told (.int told_gloves) (.int told_matters) (.int told_pride) (.int told_coins) (.ref a_told_house) (.ref a_told_free) (.ref a_told_stuffed) (.ref a_told_after) (.ref a_told_weight) (.ref a_told_need)), (a_told_after, .inl (cI, 6, .inl told_after)), (oX2 a_laws (.int laws_size) (.int laws_holds) (.ref a_laws_codes) (.ref a_laws_lengths) (.ref a_laws_letters) (.ref a_laws_stack)), (a_laws_codes, .inl (cO, 4, .inr (.inr (.inr (.inr (rwF rw)))))), (a_laws_lengths, .inl (cI, 4, .inl laws_lengths)), (a_laws_letters, .inl (cI, 6, .inl laws_letters)), (a_laws_stack, .inl (cI, 241, .inl laws_stack)), ((rw 0), .inl (cI, 241, .inl laws_c0)), ((rw 1), .inl (cI, 241, .inl laws_c1)), ((rw 2), .inl (cI, 241, .inl laws_c2)), ((rw 3), .inl (cI, 241, .inl laws_c3)), (oX9 a_S (.ref a_S_cells) (.ref a_told) (.ref a_laws)), (a_S_cells, .inl (cI, 69, .inl S_cells))] H locs := hw
  refine lv_aload_n hx hb dX9_riseOf_9 rfl (lv_at hl 0 rfl) ?_
  obtain ⟨r_3, hg_4, hf⟩ := ob1_some hf
  refine cl_ViA (As := []) (rest := [.int r_1, .int v2, .int v1, .ref a_S]) C K hw (k_X9_day a_S a_S_cells a_told a_laws S_cells r_3 hg_4) [11, 12] rfl (by decide) rfl rfl (ci := 9) (j := 11) rfl rfl (cwV 0 hts gX9_riseOf_X9_day rfl rfl rfl (by decide +kernel) ⟨Nat.le_of_ble_eq_true rfl, Nat.le_of_ble_eq_true rfl⟩) rfl hl rfl (Nat.le_of_ble_eq_true rfl) dX9_riseOf_10 ⟨Nat.zero_le _, Nat.zero_le _⟩ (fun H locs hw => ?_)
  have hw : Wo D A s [(oX5 a_told (.int told_gloves) (.int told_matters) (.int told_pride) (.int told_coins) (.ref a_told_house) (.ref a_told_free) (.ref a_told_stuffed) (.ref a_told_after) (.ref a_told_weight) (.ref a_told_need)), (a_told_after, .inl (cI, 6, .inl told_after)), (oX2 a_laws (.int laws_size) (.int laws_holds) (.ref a_laws_codes) (.ref a_laws_lengths) (.ref a_laws_letters) (.ref a_laws_stack)), (a_laws_codes, .inl (cO, 4, .inr (.inr (.inr (.inr (rwF rw)))))), (a_laws_lengths, .inl (cI, 4, .inl laws_lengths)), (a_laws_letters, .inl (cI, 6, .inl laws_letters)), (a_laws_stack, .inl (cI, 241, .inl laws_stack)), ((rw 0), .inl (cI, 241, .inl laws_c0)), ((rw 1), .inl (cI, 241, .inl laws_c1)), ((rw 2), .inl (cI, 241, .inl laws_c2)), ((rw 3), .inl (cI, 241, .inl laws_c3)), (oX9 a_S (.ref a_S_cells) (.ref a_told) (.ref a_laws)), (a_S_cells, .inl (cI, 69, .inl S_cells))] H locs := hw
  obtain ⟨r_5, laws_letters_6, laws_stack_7, hg_8, hf⟩ := ob3_some hf
  refine cl_ViA (As := [.int v1, .int v2, .int r_1, .int r_3]) (rest := []) C K hw (k_X9_riseAt a_told a_told_house a_told_free a_told_stuffed a_told_after a_told_weight a_told_need a_laws a_laws_codes a_laws_lengths a_laws_letters a_laws_stack a_S a_S_cells rw told_gloves told_matters told_pride told_coins told_after laws_size laws_holds laws_lengths laws_c0 laws_c1 laws_c2 laws_c3 S_cells r_5 laws_letters_6 laws_stack_7 laws_letters laws_stack v1 v2 r_1 r_3 hg_8) [0, 1, 2, 3, 4, 5, 6, 7, 8, 9, 10, 11, 12] rfl (by decide) rfl rfl (ci := 9) (j := 11) rfl rfl (cwV 4 hts gX9_riseOf_X9_riseAt rfl rfl rfl (by decide +kernel) ⟨Nat.le_of_ble_eq_true rfl, Nat.le_of_ble_eq_true rfl⟩) rfl hl rfl (Nat.le_of_ble_eq_true rfl) dX9_riseOf_13 ⟨Nat.zero_le _, Nat.zero_le _⟩ (fun H locs hw => ?_)
  have hw : Wo D A s [(oX5 a_told (.int told_gloves) (.int told_matters) (.int told_pride) (.int told_coins) (.ref a_told_house) (.ref a_told_free) (.ref a_told_stuffed) (.ref a_told_after) (.ref a_told_weight) (.ref a_told_need)), (a_told_after, .inl (cI, 6, .inl told_after)), (oX2 a_laws (.int laws_size) (.int laws_holds) (.ref a_laws_codes) (.ref a_laws_lengths) (.ref a_laws_letters) (.ref a_laws_stack)), (a_laws_codes, .inl (cO, 4, .inr (.inr (.inr (.inr (rwF rw)))))), (a_laws_lengths, .inl (cI, 4, .inl laws_lengths)), (a_laws_letters, .inl (cI, 6, .inl laws_letters_6)), (a_laws_stack, .inl (cI, 241, .inl laws_stack_7)), ((rw 0), .inl (cI, 241, .inl laws_c0)), ((rw 1), .inl (cI, 241, .inl laws_c1)), ((rw 2), .inl (cI, 241, .inl laws_c2)), ((rw 3), .inl (cI, 241, .inl laws_c3)), (oX9 a_S (.ref a_S_cells) (.ref a_told) (.ref a_laws)), (a_S_cells, .inl (cI, 69, .inl S_cells))] H locs := hw
  cases hf
  exact retI C hw dX9_riseOf_16 rfl
set_option maxHeartbeats 4000000 in
set_option maxRecDepth 100000 in
theorem k_X9_riseOf {l : Launch} {sx : List sx_T} {D : va_G} {cI cZ cO : ClassId} (a_told : Nat) (a_told_house : Nat) (a_told_free : Nat) (a_told_stuffed : Nat) (a_told_after : Nat) (a_told_weight : Nat) (a_told_need : Nat) (a_laws : Nat) (a_laws_codes : Nat) (a_laws_lengths : Nat) (a_laws_letters : Nat) (a_laws_stack : Nat) (a_S : Nat) (a_S_cells : Nat) (rw : Nat → Nat) (told_gloves : Int32) (told_matters : Int32) (told_pride : Int32) (told_coins : Int32) (told_after : Nat → Int32) (laws_size : Int32) (laws_holds : Int32) (laws_lengths : Nat → Int32) (laws_c0 : Nat → Int32) (laws_c1 : Nat → Int32) (laws_c2 : Nat → Int32) (laws_c3 : Nat → Int32) (S_cells : Nat → Int32) (r0 : Int32) (o_laws_letters : Nat → Int32) (o_laws_stack : Nat → Int32) (laws_letters : Nat → Int32) (laws_stack : Nat → Int32) (p1 : Int32) (p2 : Int32) (hF : f_X9_riseOf told_after laws_holds laws_lengths laws_c0 laws_c1 laws_c2 laws_c3 S_cells laws_letters laws_stack p1 p2 = some (r0, o_laws_letters, o_laws_stack)) : CtI l yX9_riseOf wsX9_riseOf rm_X9_riseOf sx D (tyL cI cZ cO) [.ref a_S, .int p1, .int p2] [(oX5 a_told (.int told_gloves) (.int told_matters) (.int told_pride) (.int told_coins) (.ref a_told_house) (.ref a_told_free) (.ref a_told_stuffed) (.ref a_told_after) (.ref a_told_weight) (.ref a_told_need)), (a_told_after, .inl (cI, 6, .inl told_after)), (oX2 a_laws (.int laws_size) (.int laws_holds) (.ref a_laws_codes) (.ref a_laws_lengths) (.ref a_laws_letters) (.ref a_laws_stack)), (a_laws_codes, .inl (cO, 4, .inr (.inr (.inr (.inr (rwF rw)))))), (a_laws_lengths, .inl (cI, 4, .inl laws_lengths)), (a_laws_letters, .inl (cI, 6, .inl laws_letters)), (a_laws_stack, .inl (cI, 241, .inl laws_stack)), ((rw 0), .inl (cI, 241, .inl laws_c0)), ((rw 1), .inl (cI, 241, .inl laws_c1)), ((rw 2), .inl (cI, 241, .inl laws_c2)), ((rw 3), .inl (cI, 241, .inl laws_c3)), (oX9 a_S (.ref a_S_cells) (.ref a_told) (.ref a_laws)), (a_S_cells, .inl (cI, 69, .inl S_cells))] r0 [(oX5 a_told (.int told_gloves) (.int told_matters) (.int told_pride) (.int told_coins) (.ref a_told_house) (.ref a_told_free) (.ref a_told_stuffed) (.ref a_told_after) (.ref a_told_weight) (.ref a_told_need)), (a_told_after, .inl (cI, 6, .inl told_after)), (oX2 a_laws (.int laws_size) (.int laws_holds) (.ref a_laws_codes) (.ref a_laws_lengths) (.ref a_laws_letters) (.ref a_laws_stack)), (a_laws_codes, .inl (cO, 4, .inr (.inr (.inr (.inr (rwF rw)))))), (a_laws_lengths, .inl (cI, 4, .inl laws_lengths)), (a_laws_letters, .inl (cI, 6, .inl o_laws_letters)), (a_laws_stack, .inl (cI, 241, .inl o_laws_stack)), ((rw 0), .inl (cI, 241, .inl laws_c0)), ((rw 1), .inl (cI, 241, .inl laws_c1)), ((rw 2), .inl (cI, 241, .inl laws_c2)), ((rw 3), .inl (cI, 241, .inl laws_c3)), (oX9 a_S (.ref a_S_cells) (.ref a_told) (.ref a_laws)), (a_S_cells, .inl (cI, 69, .inl S_cells))] := by
  refine ctI_of (cc := cX9_riseOf) (ret := (some .int)) (maxL := 3) (by decide) rfl (Nat.le_of_ble_eq_true rfl) ?_
  intro p e s m below meth c A ls C K hw hl
  exact q_X9_riseOf_0 C K a_told a_told_house a_told_free a_told_stuffed a_told_after a_told_weight a_told_need a_laws a_laws_codes a_laws_lengths a_laws_letters a_laws_stack a_S a_S_cells rw told_gloves told_matters told_pride told_coins told_after laws_size laws_holds laws_lengths laws_c0 laws_c1 laws_c2 laws_c3 S_cells r0 o_laws_letters o_laws_stack laws_letters laws_stack p1 p2 hF hw (lv_sub hl [0, 1, 2] rfl)
abbrev rm_X9_copyFrom : Room := { frames := 1, cells := 0, slots := 0, locals := 26 }
theorem in_X9_copyFrom_X9 : ∀ w ∈ u_ws RX9 TX9 3, w ∈ wsX9_copyFrom := fun w h => List.mem_cons_of_mem _ (bi_wsX90 w h)
theorem lk_X9_copyFrom_0 : Cond.fieldLink RX9 11 "GloveHouses$State" "cells" "[I" ∈ wsX9_copyFrom := List.mem_cons_of_mem _ (bi_wsL_law0_r5 _ (List.mem_of_getElem? (i := 11) rfl))
theorem lk_X9_copyFrom_1 : Cond.methodLink RX9 23 arraycopyName ∈ wsX9_copyFrom := List.mem_cons_of_mem _ (bi_wsL_law0_r46 _ (List.mem_of_getElem? (i := 10) rfl))
theorem lk_X9_copyFrom_2 : Cond.native arraycopyName ∈ wsX9_copyFrom := List.mem_cons_of_mem _ (bi_wsL_law0_r10 _ (List.mem_of_getElem? (i := 21) rfl))
theorem lk_X9_copyFrom_3 : Cond.static arraycopyName ∈ wsX9_copyFrom := List.mem_cons_of_mem _ (bi_wsL_law0_r10 _ (List.mem_of_getElem? (i := 22) rfl))
theorem lk_X9_copyFrom_4 : Cond.initialized "java/lang/System" ∈ wsX9_copyFrom := List.mem_cons_of_mem _ (bi_wsL_law0_r10 _ (List.mem_of_getElem? (i := 23) rfl))
set_option maxHeartbeats 4000000 in
set_option maxRecDepth 100000 in
theorem q_X9_copyFrom_0 {p : Program} {l : Launch} {e : Env} {s : State} {m : MethodId} {args : Array Value} {below : List Frame} {meth : Method} {c : Code} {sx : List sx_T} {D : va_G} {cI cZ cO : ClassId} {A : Nat → Prop} (C : Cx p s m args meth c RX9 wsX9_copyFrom cX9_copyFrom 2 none) (K : Kx sx D (tyL cI cZ cO) A s) (a_S : Nat) (a_S_cells : Nat) (a_told : Nat) (a_laws : Nat) (a_SO : Nat) (a_SO_cells : Nat) (SO_cells : Nat → Int32) (o_S_cells : Nat → Int32)    (S_cells : Nat → Int32) {H : Heap} {locs : List Loc} {ls : Array Slot} (hf : b_X9_copyFrom_0 SO_cells  S_cells = some o_S_cells) (hw : Wo D A s [(oX9 a_S (.ref a_S_cells) (.ref a_told) (.ref a_laws)), (a_S_cells, .inl (cI, 69, .inl S_cells)), (oX9 a_SO (.ref a_SO_cells) (.ref a_told) (.ref a_laws)), (a_SO_cells, .inl (cI, 69, .inl SO_cells))] H locs) (hl : lv_has ls 2 [(0, .ref a_S), (1, .ref a_SO)]) : W p l e rm_X9_copyFrom s m args below meth c H locs 0 0 (MQ below (QcV D A [(oX9 a_S (.ref a_S_cells) (.ref a_told) (.ref a_laws)), (a_S_cells, .inl (cI, 69, .inl o_S_cells)), (oX9 a_SO (.ref a_SO_cells) (.ref a_told) (.ref a_laws)), (a_SO_cells, .inl (cI, 69, .inl SO_cells))]) args s 0 0 A) (F0 m 0 ls []) := by
  obtain ⟨hx, hb, hml, hown, hts, hr, hlk⟩ := id C
  obtain ⟨hK, hX, hA⟩ := id K
  unfold b_X9_copyFrom_0 at hf
  refine lv_aload_n hx hb dX9_copyFrom_0 rfl (lv_at hl 1 rfl) ?_
  refine va_get (ci := 9) (v := .ref a_SO_cells) (C := RX9) (T := TX9) (N := 3) hx hb hts in_X9_copyFrom_X9 hown hK hw.1 2 rfl rfl 0 (by decide) (hts _ lk_X9_copyFrom_0) (fun _ h9 => h9) rfl dX9_copyFrom_1 ?_
  refine lv_iconst (v := (0 : Int32)) hx hb dX9_copyFrom_4 (by decide) ?_
  refine lv_aload_n hx hb dX9_copyFrom_5 rfl (lv_at hl 0 rfl) ?_
  refine va_get (ci := 9) (v := .ref a_S_cells) (C := RX9) (T := TX9) (N := 3) hx hb hts in_X9_copyFrom_X9 hown hK hw.1 0 rfl rfl 0 (by decide) (hts _ lk_X9_copyFrom_0) (fun _ h9 => h9) rfl dX9_copyFrom_6 ?_
  refine lv_iconst (v := (0 : Int32)) hx hb dX9_copyFrom_9 (by decide) ?_
  refine lv_bipush (v := (69 : Int32)) hx hb dX9_copyFrom_10 (by decide) ?_
  obtain ⟨hc_1, hf⟩ := gd_some hf
  obtain ⟨hc_2, hf⟩ := gd_some hf
  obtain ⟨S_cells_3, e_S_cells_3, hf⟩ := bnd_some hf
  refine va_copyi hx hb (hml.trans hl.1.symm) hown (hts _ lk_X9_copyFrom_1) (hts _ lk_X9_copyFrom_2) (hts _ lk_X9_copyFrom_3) (hts _ lk_X9_copyFrom_4) hK hw.1 hw.2.1 hw.2.2 3 1 0 0 rfl rfl rfl rfl rfl (spB_sp hc_1).1 (spB_sp hc_2).1 (spB_sp hc_1).2.1 (spB_sp hc_1).2.2 (spB_sp hc_2).2.2 (fun _ _ => rfl) (Nat.le_of_ble_eq_true rfl) (Nat.le_of_ble_eq_true rfl) dX9_copyFrom_12 (fun H locs hP hD hS => ?_)
  have hw : Wo D A s [(oX9 a_S (.ref a_S_cells) (.ref a_told) (.ref a_laws)), (a_S_cells, .inl (cI, 69, .inl S_cells_3)), (oX9 a_SO (.ref a_SO_cells) (.ref a_told) (.ref a_laws)), (a_SO_cells, .inl (cI, 69, .inl SO_cells))] H locs := by rw [e_S_cells_3]; exact ⟨hP, hD, hS⟩
  cases hf
  exact retV C hw dX9_copyFrom_15
set_option maxHeartbeats 4000000 in
set_option maxRecDepth 100000 in
theorem k_X9_copyFrom {l : Launch} {sx : List sx_T} {D : va_G} {cI cZ cO : ClassId} (a_S : Nat) (a_S_cells : Nat) (a_told : Nat) (a_laws : Nat) (a_SO : Nat) (a_SO_cells : Nat) (SO_cells : Nat → Int32) (o_S_cells : Nat → Int32) (S_cells : Nat → Int32) (hF : f_X9_copyFrom SO_cells S_cells = some o_S_cells) : CtV l yX9_copyFrom wsX9_copyFrom rm_X9_copyFrom sx D (tyL cI cZ cO) [.ref a_S, .ref a_SO] [(oX9 a_S (.ref a_S_cells) (.ref a_told) (.ref a_laws)), (a_S_cells, .inl (cI, 69, .inl S_cells)), (oX9 a_SO (.ref a_SO_cells) (.ref a_told) (.ref a_laws)), (a_SO_cells, .inl (cI, 69, .inl SO_cells))] [(oX9 a_S (.ref a_S_cells) (.ref a_told) (.ref a_laws)), (a_S_cells, .inl (cI, 69, .inl o_S_cells)), (oX9 a_SO (.ref a_SO_cells) (.ref a_told) (.ref a_laws)), (a_SO_cells, .inl (cI, 69, .inl SO_cells))] := by
  refine ctV_of (cc := cX9_copyFrom) (ret := none) (maxL := 2) (by decide) rfl (Nat.le_of_ble_eq_true rfl) ?_
  intro p e s m below meth c A ls C K hw hl
  exact q_X9_copyFrom_0 C K a_S a_S_cells a_told a_laws a_SO a_SO_cells SO_cells o_S_cells S_cells hF hw (lv_sub hl [0, 1] rfl)
abbrev rm_X9_allKnown : Room := { frames := 1, cells := 0, slots := 0, locals := 21 }
theorem in_X9_allKnown_X9 : ∀ w ∈ u_ws RX9 TX9 3, w ∈ wsX9_allKnown := fun w h => List.mem_cons_of_mem _ (bi_wsX90 w h)
theorem in_X9_allKnown_X5 : ∀ w ∈ u_ws RX5 TX5 10, w ∈ wsX9_allKnown := fun w h => List.mem_cons_of_mem _ (bi_wsX50 w h)
theorem lk_X9_allKnown_0 : Cond.fieldLink RX9 15 "GloveHouses$State" "told" "LGloveHouses$Peace;" ∈ wsX9_allKnown := List.mem_cons_of_mem _ (bi_wsL_law0_r5 _ (List.mem_of_getElem? (i := 12) rfl))
theorem lk_X9_allKnown_1 : Cond.fieldLink RX9 102 "GloveHouses$Peace" "gloves" "I" ∈ wsX9_allKnown := List.mem_cons_of_mem _ (bi_wsL_law0_r37 _ (List.mem_of_getElem? (i := 4) rfl))
set_option maxHeartbeats 4000000 in
set_option maxRecDepth 100000 in
theorem q_X9_allKnown_2 {p : Program} {l : Launch} {e : Env} {s : State} {m : MethodId} {args : Array Value} {below : List Frame} {meth : Method} {c : Code} {sx : List sx_T} {D : va_G} {cI cZ cO : ClassId} {A : Nat → Prop} (C : Cx p s m args meth c RX9 wsX9_allKnown cX9_allKnown 2 (some .boolean)) (K : Kx sx D (tyL cI cZ cO) A s) (a_told : Nat) (a_told_house : Nat) (a_told_free : Nat) (a_told_stuffed : Nat) (a_told_after : Nat) (a_told_weight : Nat) (a_told_need : Nat) (a_S : Nat) (a_S_cells : Nat) (a_laws : Nat) (told_gloves : Int32) (told_matters : Int32) (told_pride : Int32) (told_coins : Int32) (S_cells : Nat → Int32) (r0 : Int32)   (k2 : Int32 → Option (Int32)) (hk2 : ∀ (v1 : Int32) (H : Heap) (locs : List Loc) (ls : Array Slot), k2 v1 = some r0 → Wo D A s [(oX5 a_told (.int told_gloves) (.int told_matters) (.int told_pride) (.int told_coins) (.ref a_told_house) (.ref a_told_free) (.ref a_told_stuffed) (.ref a_told_after) (.ref a_told_weight) (.ref a_told_need)), (oX9 a_S (.ref a_S_cells) (.ref a_told) (.ref a_laws)), (a_S_cells, .inl (cI, 69, .inl S_cells))] H locs → lv_has ls 2 [(0, .ref a_S), (1, .int v1)] → W p l e rm_X9_allKnown s m args below meth c H locs 0 0 (MQ below (QcI D A r0 [(oX5 a_told (.int told_gloves) (.int told_matters) (.int told_pride) (.int told_coins) (.ref a_told_house) (.ref a_told_free) (.ref a_told_stuffed) (.ref a_told_after) (.ref a_told_weight) (.ref a_told_need)), (oX9 a_S (.ref a_S_cells) (.ref a_told) (.ref a_laws)), (a_S_cells, .inl (cI, 69, .inl S_cells))]) args s 0 0 A) (F0 m 2 ls [])) (v1 : Int32) {H : Heap} {locs : List Loc} {ls : Array Slot} (hf : b_X9_allKnown_2 told_gloves S_cells k2 v1 = some r0) (hw : Wo D A s [(oX5 a_told (.int told_gloves) (.int told_matters) (.int told_pride) (.int told_coins) (.ref a_told_house) (.ref a_told_free) (.ref a_told_stuffed) (.ref a_told_after) (.ref a_told_weight) (.ref a_told_need)), (oX9 a_S (.ref a_S_cells) (.ref a_told) (.ref a_laws)), (a_S_cells, .inl (cI, 69, .inl S_cells))] H locs) (hl : lv_has ls 2 [(0, .ref a_S), (1, .int v1)]) : W p l e rm_X9_allKnown s m args below meth c H locs 0 0 (MQ below (QcI D A r0 [(oX5 a_told (.int told_gloves) (.int told_matters) (.int told_pride) (.int told_coins) (.ref a_told_house) (.ref a_told_free) (.ref a_told_stuffed) (.ref a_told_after) (.ref a_told_weight) (.ref a_told_need)), (oX9 a_S (.ref a_S_cells) (.ref a_told) (.ref a_laws)), (a_S_cells, .inl (cI, 69, .inl S_cells))]) args s 0 0 A) (F0 m 2 ls []) := by
  obtain ⟨hx, hb, hml, hown, hts, hr, hlk⟩ := id C
  obtain ⟨hK, hX, hA⟩ := id K
  unfold b_X9_allKnown_2 at hf
  refine lv_iload_n hx hb dX9_allKnown_2 rfl (lv_at hl 1 rfl) ?_
  refine lv_aload_n hx hb dX9_allKnown_3 rfl (lv_at hl 0 rfl) ?_
  refine va_get (ci := 9) (v := .ref a_told) (C := RX9) (T := TX9) (N := 3) hx hb hts in_X9_allKnown_X9 hown hK hw.1 1 rfl rfl 1 (by decide) (hts _ lk_X9_allKnown_0) (fun _ h9 => h9) rfl dX9_allKnown_4 ?_
  refine va_get (ci := 5) (v := .int told_gloves) (C := RX5) (T := TX5) (N := 10) hx hb hts in_X9_allKnown_X5 hown hK hw.1 0 rfl rfl 0 (by decide) (hts _ lk_X9_allKnown_1) (fun _ h9 => h9) rfl dX9_allKnown_7 ?_
  refine lv_icmp_ge (tgt := 40) hx hb dX9_allKnown_10 (by decide) (fun hc => ?_) (fun hc => ?_)
  · have hf := (if_pos hc).symm.trans hf
    refine lv_iconst (v := (1 : Int32)) hx hb dX9_allKnown_40 (by decide) ?_
    clear hk2; cases hf
    exact retZ C hw dX9_allKnown_41 (by decide) rfl
  · have hf := (if_neg hc).symm.trans hf
    refine lv_aload_n hx hb dX9_allKnown_13 rfl (lv_at hl 0 rfl) ?_
    refine lv_iload_n hx hb dX9_allKnown_14 rfl (lv_at hl 1 rfl) ?_
    obtain ⟨r_1, hg_2, hf⟩ := ob1_some hf
    refine cl_ViA (As := [.int v1]) (rest := []) C K hw (k_X9_knows a_S a_S_cells a_told a_laws S_cells r_1 v1 hg_2) [1, 2] rfl (by decide) rfl rfl (ci := 9) (j := 1) rfl rfl (cwV 1 hts gX9_allKnown_X9_knows rfl rfl rfl (by decide +kernel) ⟨Nat.le_of_ble_eq_true rfl, Nat.le_of_ble_eq_true rfl⟩) rfl hl rfl (Nat.le_of_ble_eq_true rfl) dX9_allKnown_15 ⟨Nat.zero_le _, Nat.zero_le _⟩ (fun H locs hw => ?_)
    have hw : Wo D A s [(oX5 a_told (.int told_gloves) (.int told_matters) (.int told_pride) (.int told_coins) (.ref a_told_house) (.ref a_told_free) (.ref a_told_stuffed) (.ref a_told_after) (.ref a_told_weight) (.ref a_told_need)), (oX9 a_S (.ref a_S_cells) (.ref a_told) (.ref a_laws)), (a_S_cells, .inl (cI, 69, .inl S_cells))] H locs := hw
    refine lv_iconst (v := (1 : Int32)) hx hb dX9_allKnown_18 (by decide) ?_
    refine lv_aload_n hx hb dX9_allKnown_19 rfl (lv_at hl 0 rfl) ?_
    refine va_get (ci := 9) (v := .ref a_told) (C := RX9) (T := TX9) (N := 3) hx hb hts in_X9_allKnown_X9 hown hK hw.1 1 rfl rfl 1 (by decide) (hts _ lk_X9_allKnown_0) (fun _ h9 => h9) rfl dX9_allKnown_20 ?_
    refine va_get (ci := 5) (v := .int told_gloves) (C := RX5) (T := TX5) (N := 10) hx hb hts in_X9_allKnown_X5 hown hK hw.1 0 rfl rfl 0 (by decide) (hts _ lk_X9_allKnown_1) (fun _ h9 => h9) rfl dX9_allKnown_23 ?_
    refine lv_ishl hx hb dX9_allKnown_26 ?_
    refine lv_iconst (v := (1 : Int32)) hx hb dX9_allKnown_27 (by decide) ?_
    refine lv_isub hx hb dX9_allKnown_28 ?_
    obtain ⟨n_3, e_n_3, hf⟩ := bnd_some hf
    refine lv_nmi e_n_3 ?_
    refine lv_icmp_eq (tgt := 34) hx hb dX9_allKnown_29 (by decide) (fun hc => ?_) (fun hc => ?_)
    · have hf := (if_pos hc).symm.trans hf
      obtain ⟨v1_4, e_v1_4, hf⟩ := bnd_some hf
      refine lv_iinc (v := v1_4) (lv' := [(1, .int v1_4), (0, .ref a_S)]) hx hb dX9_allKnown_34 hl (k := 1) rfl (by rw [e_v1_4]; rfl) (by decide) rfl (fun ls hl => ?_)
      refine lv_goto (tgt := 2) hx hb dX9_allKnown_37 (by decide) ?_
      exact hk2 v1_4 _ _ _ hf hw (lv_sub hl [1, 0] rfl)
    · have hf := (if_neg hc).symm.trans hf
      refine lv_iconst (v := (0 : Int32)) hx hb dX9_allKnown_32 (by decide) ?_
      clear hk2; cases hf
      exact retZ C hw dX9_allKnown_33 (by decide) rfl
theorem qf_X9_allKnown_2 {p : Program} {l : Launch} {e : Env} {s : State} {m : MethodId} {args : Array Value} {below : List Frame} {meth : Method} {c : Code} {sx : List sx_T} {D : va_G} {cI cZ cO : ClassId} {A : Nat → Prop} (C : Cx p s m args meth c RX9 wsX9_allKnown cX9_allKnown 2 (some .boolean)) (K : Kx sx D (tyL cI cZ cO) A s) (a_told : Nat) (a_told_house : Nat) (a_told_free : Nat) (a_told_stuffed : Nat) (a_told_after : Nat) (a_told_weight : Nat) (a_told_need : Nat) (a_S : Nat) (a_S_cells : Nat) (a_laws : Nat) (told_gloves : Int32) (told_matters : Int32) (told_pride : Int32) (told_coins : Int32) (S_cells : Nat → Int32) (r0 : Int32)    (n : Nat) : ∀ (v1 : Int32) (H : Heap) (locs : List Loc) (ls : Array Slot), f_X9_allKnown_2 told_gloves S_cells  n v1 = some r0 → Wo D A s [(oX5 a_told (.int told_gloves) (.int told_matters) (.int told_pride) (.int told_coins) (.ref a_told_house) (.ref a_told_free) (.ref a_told_stuffed) (.ref a_told_after) (.ref a_told_weight) (.ref a_told_need)), (oX9 a_S (.ref a_S_cells) (.ref a_told) (.ref a_laws)), (a_S_cells, .inl (cI, 69, .inl S_cells))] H locs → lv_has ls 2 [(0, .ref a_S), (1, .int v1)] → W p l e rm_X9_allKnown s m args below meth c H locs 0 0 (MQ below (QcI D A r0 [(oX5 a_told (.int told_gloves) (.int told_matters) (.int told_pride) (.int told_coins) (.ref a_told_house) (.ref a_told_free) (.ref a_told_stuffed) (.ref a_told_after) (.ref a_told_weight) (.ref a_told_need)), (oX9 a_S (.ref a_S_cells) (.ref a_told) (.ref a_laws)), (a_S_cells, .inl (cI, 69, .inl S_cells))]) args s 0 0 A) (F0 m 2 ls []) := by
  induction n with
  | zero =>
    intro v1 H locs ls hf
    have h9 : (none : Option (Int32)) = some r0 := hf
    cases h9
  | succ n ih =>
    intro v1 H locs ls hf hw hl
    exact q_X9_allKnown_2 C K a_told a_told_house a_told_free a_told_stuffed a_told_after a_told_weight a_told_need a_S a_S_cells a_laws told_gloves told_matters told_pride told_coins S_cells r0  (f_X9_allKnown_2 told_gloves S_cells  n) ih v1 hf hw hl
set_option maxHeartbeats 4000000 in
set_option maxRecDepth 100000 in
theorem q_X9_allKnown_0 {p : Program} {l : Launch} {e : Env} {s : State} {m : MethodId} {args : Array Value} {below : List Frame} {meth : Method} {c : Code} {sx : List sx_T} {D : va_G} {cI cZ cO : ClassId} {A : Nat → Prop} (C : Cx p s m args meth c RX9 wsX9_allKnown cX9_allKnown 2 (some .boolean)) (K : Kx sx D (tyL cI cZ cO) A s) (a_told : Nat) (a_told_house : Nat) (a_told_free : Nat) (a_told_stuffed : Nat) (a_told_after : Nat) (a_told_weight : Nat) (a_told_need : Nat) (a_S : Nat) (a_S_cells : Nat) (a_laws : Nat) (told_gloves : Int32) (told_matters : Int32) (told_pride : Int32) (told_coins : Int32) (S_cells : Nat → Int32) (r0 : Int32)     {H : Heap} {locs : List Loc} {ls : Array Slot} (hf : b_X9_allKnown_0 told_gloves S_cells   = some r0) (hw : Wo D A s [(oX5 a_told (.int told_gloves) (.int told_matters) (.int told_pride) (.int told_coins) (.ref a_told_house) (.ref a_told_free) (.ref a_told_stuffed) (.ref a_told_after) (.ref a_told_weight) (.ref a_told_need)), (oX9 a_S (.ref a_S_cells) (.ref a_told) (.ref a_laws)), (a_S_cells, .inl (cI, 69, .inl S_cells))] H locs) (hl : lv_has ls 2 [(0, .ref a_S)]) : W p l e rm_X9_allKnown s m args below meth c H locs 0 0 (MQ below (QcI D A r0 [(oX5 a_told (.int told_gloves) (.int told_matters) (.int told_pride) (.int told_coins) (.ref a_told_house) (.ref a_told_free) (.ref a_told_stuffed) (.ref a_told_after) (.ref a_told_weight) (.ref a_told_need)), (oX9 a_S (.ref a_S_cells) (.ref a_told) (.ref a_laws)), (a_S_cells, .inl (cI, 69, .inl S_cells))]) args s 0 0 A) (F0 m 0 ls []) := by
  obtain ⟨hx, hb, hml, hown, hts, hr, hlk⟩ := id C
  obtain ⟨hK, hX, hA⟩ := id K
  unfold b_X9_allKnown_0 at hf
  refine lv_iconst (v := (0 : Int32)) hx hb dX9_allKnown_0 (by decide) ?_
  refine lv_istore_n (lv' := [(1, .int (0 : Int32)), (0, .ref a_S)]) hx hb dX9_allKnown_1 rfl hl (by decide) rfl (fun ls hl => ?_)
  exact qf_X9_allKnown_2 C K a_told a_told_house a_told_free a_told_stuffed a_told_after a_told_weight a_told_need a_S a_S_cells a_laws told_gloves told_matters told_pride told_coins S_cells r0  fu (0 : Int32) _ _ _ hf hw (lv_sub hl [1, 0] rfl)
set_option maxHeartbeats 4000000 in
set_option maxRecDepth 100000 in
theorem k_X9_allKnown {l : Launch} {sx : List sx_T} {D : va_G} {cI cZ cO : ClassId} (a_told : Nat) (a_told_house : Nat) (a_told_free : Nat) (a_told_stuffed : Nat) (a_told_after : Nat) (a_told_weight : Nat) (a_told_need : Nat) (a_S : Nat) (a_S_cells : Nat) (a_laws : Nat) (told_gloves : Int32) (told_matters : Int32) (told_pride : Int32) (told_coins : Int32) (S_cells : Nat → Int32) (r0 : Int32) (hF : f_X9_allKnown told_gloves S_cells = some r0) : CtI l yX9_allKnown wsX9_allKnown rm_X9_allKnown sx D (tyL cI cZ cO) [.ref a_S] [(oX5 a_told (.int told_gloves) (.int told_matters) (.int told_pride) (.int told_coins) (.ref a_told_house) (.ref a_told_free) (.ref a_told_stuffed) (.ref a_told_after) (.ref a_told_weight) (.ref a_told_need)), (oX9 a_S (.ref a_S_cells) (.ref a_told) (.ref a_laws)), (a_S_cells, .inl (cI, 69, .inl S_cells))] r0 [(oX5 a_told (.int told_gloves) (.int told_matters) (.int told_pride) (.int told_coins) (.ref a_told_house) (.ref a_told_free) (.ref a_told_stuffed) (.ref a_told_after) (.ref a_told_weight) (.ref a_told_need)), (oX9 a_S (.ref a_S_cells) (.ref a_told) (.ref a_laws)), (a_S_cells, .inl (cI, 69, .inl S_cells))] := by
  refine ctI_of (cc := cX9_allKnown) (ret := (some .boolean)) (maxL := 2) (by decide) rfl (Nat.le_of_ble_eq_true rfl) ?_
  intro p e s m below meth c A ls C K hw hl
  exact q_X9_allKnown_0 C K a_told a_told_house a_told_free a_told_stuffed a_told_after a_told_weight a_told_need a_S a_S_cells a_laws told_gloves told_matters told_pride told_coins S_cells r0  hF hw (lv_sub hl [0] rfl)
abbrev rm_X9_gains : Room := { frames := 5, cells := 0, slots := 0, locals := 124 }
theorem in_X9_gains_X9 : ∀ w ∈ u_ws RX9 TX9 3, w ∈ wsX9_gains := fun w h => List.mem_cons_of_mem _ (bi_wsX90 w h)
theorem lk_X9_gains_0 : Cond.fieldLink RX9 15 "GloveHouses$State" "told" "LGloveHouses$Peace;" ∈ wsX9_gains := List.mem_cons_of_mem _ (bi_wsL_law0_r5 _ (List.mem_of_getElem? (i := 12) rfl))
set_option maxHeartbeats 4000000 in
set_option maxRecDepth 100000 in
theorem q_X9_gains_0 {p : Program} {l : Launch} {e : Env} {s : State} {m : MethodId} {args : Array Value} {below : List Frame} {meth : Method} {c : Code} {sx : List sx_T} {D : va_G} {cI cZ cO : ClassId} {A : Nat → Prop} (C : Cx p s m args meth c RX9 wsX9_gains cX9_gains 3 (some .int)) (K : Kx sx D (tyL cI cZ cO) A s) (a_told : Nat) (a_told_house : Nat) (a_told_free : Nat) (a_told_stuffed : Nat) (a_told_after : Nat) (a_told_weight : Nat) (a_told_need : Nat) (a_laws : Nat) (a_laws_codes : Nat) (a_laws_lengths : Nat) (a_laws_letters : Nat) (a_laws_stack : Nat) (a_S : Nat) (a_S_cells : Nat) (rw : Nat → Nat) (told_gloves : Int32) (told_matters : Int32) (told_pride : Int32) (told_coins : Int32) (told_after : Nat → Int32) (laws_size : Int32) (laws_holds : Int32) (laws_lengths : Nat → Int32) (laws_c0 : Nat → Int32) (laws_c1 : Nat → Int32) (laws_c2 : Nat → Int32) (laws_c3 : Nat → Int32) (S_cells : Nat → Int32) (r0 : Int32) (o_laws_letters : Nat → Int32) (o_laws_stack : Nat → Int32)    (laws_letters : Nat → Int32) (laws_stack : Nat → Int32) (v1 : Int32) (v2 : Int32) {H : Heap} {locs : List Loc} {ls : Array Slot} (hf : b_X9_gains_0 told_gloves told_after laws_holds laws_lengths laws_c0 laws_c1 laws_c2 laws_c3 S_cells  laws_letters laws_stack v1 v2 = some (r0, o_laws_letters, o_laws_stack)) (hw : Wo D A s [(oX5 a_told (.int told_gloves) (.int told_matters) (.int told_pride) (.int told_coins) (.ref a_told_house) (.ref a_told_free) (.ref a_told_stuffed) (.ref a_told_after) (.ref a_told_weight) (.ref a_told_need)), (a_told_after, .inl (cI, 6, .inl told_after)), (oX2 a_laws (.int laws_size) (.int laws_holds) (.ref a_laws_codes) (.ref a_laws_lengths) (.ref a_laws_letters) (.ref a_laws_stack)), (a_laws_codes, .inl (cO, 4, .inr (.inr (.inr (.inr (rwF rw)))))), (a_laws_lengths, .inl (cI, 4, .inl laws_lengths)), (a_laws_letters, .inl (cI, 6, .inl laws_letters)), (a_laws_stack, .inl (cI, 241, .inl laws_stack)), ((rw 0), .inl (cI, 241, .inl laws_c0)), ((rw 1), .inl (cI, 241, .inl laws_c1)), ((rw 2), .inl (cI, 241, .inl laws_c2)), ((rw 3), .inl (cI, 241, .inl laws_c3)), (oX9 a_S (.ref a_S_cells) (.ref a_told) (.ref a_laws)), (a_S_cells, .inl (cI, 69, .inl S_cells))] H locs) (hl : lv_has ls 3 [(0, .ref a_S), (1, .int v1), (2, .int v2)]) : W p l e rm_X9_gains s m args below meth c H locs 0 0 (MQ below (QcI D A r0 [(oX5 a_told (.int told_gloves) (.int told_matters) (.int told_pride) (.int told_coins) (.ref a_told_house) (.ref a_told_free) (.ref a_told_stuffed) (.ref a_told_after) (.ref a_told_weight) (.ref a_told_need)), (a_told_after, .inl (cI, 6, .inl told_after)), (oX2 a_laws (.int laws_size) (.int laws_holds) (.ref a_laws_codes) (.ref a_laws_lengths) (.ref a_laws_letters) (.ref a_laws_stack)), (a_laws_codes, .inl (cO, 4, .inr (.inr (.inr (.inr (rwF rw)))))), (a_laws_lengths, .inl (cI, 4, .inl laws_lengths)), (a_laws_letters, .inl (cI, 6, .inl o_laws_letters)), (a_laws_stack, .inl (cI, 241, .inl o_laws_stack)), ((rw 0), .inl (cI, 241, .inl laws_c0)), ((rw 1), .inl (cI, 241, .inl laws_c1)), ((rw 2), .inl (cI, 241, .inl laws_c2)), ((rw 3), .inl (cI, 241, .inl laws_c3)), (oX9 a_S (.ref a_S_cells) (.ref a_told) (.ref a_laws)), (a_S_cells, .inl (cI, 69, .inl S_cells))]) args s 0 0 A) (F0 m 0 ls []) := by
  obtain ⟨hx, hb, hml, hown, hts, hr, hlk⟩ := id C
  obtain ⟨hK, hX, hA⟩ := id K
  unfold b_X9_gains_0 at hf
  refine lv_aload_n hx hb dX9_gains_0 rfl (lv_at hl 0 rfl) ?_
  refine va_get (ci := 9) (v := .ref a_told) (C := RX9) (T := TX9) (N := 3) hx hb hts in_X9_gains_X9 hown hK hw.1 11 rfl rfl 1 (by decide) (hts _ lk_X9_gains_0) (fun _ h9 => h9) rfl dX9_gains_1 ?_
  refine lv_iload_n hx hb dX9_gains_4 rfl (lv_at hl 1 rfl) ?_
  obtain ⟨r_1, hg_2, hf⟩ := ob1_some hf
  refine cl_ViA (As := [.int v1]) (rest := []) C K hw (k_X5_hasGlove a_told a_told_house a_told_free a_told_stuffed a_told_after a_told_weight a_told_need told_gloves told_matters told_pride told_coins r_1 v1 hg_2) [0] rfl (by decide) rfl rfl (ci := 5) (j := 0) rfl rfl (cwV 1 hts gX9_gains_X5_hasGlove rfl rfl rfl (by decide +kernel) ⟨Nat.le_of_ble_eq_true rfl, Nat.le_of_ble_eq_true rfl⟩) rfl hl rfl (Nat.le_of_ble_eq_true rfl) dX9_gains_5 ⟨Nat.zero_le _, Nat.zero_le _⟩ (fun H locs hw => ?_)
  have hw : Wo D A s [(oX5 a_told (.int told_gloves) (.int told_matters) (.int told_pride) (.int told_coins) (.ref a_told_house) (.ref a_told_free) (.ref a_told_stuffed) (.ref a_told_after) (.ref a_told_weight) (.ref a_told_need)), (a_told_after, .inl (cI, 6, .inl told_after)), (oX2 a_laws (.int laws_size) (.int laws_holds) (.ref a_laws_codes) (.ref a_laws_lengths) (.ref a_laws_letters) (.ref a_laws_stack)), (a_laws_codes, .inl (cO, 4, .inr (.inr (.inr (.inr (rwF rw)))))), (a_laws_lengths, .inl (cI, 4, .inl laws_lengths)), (a_laws_letters, .inl (cI, 6, .inl laws_letters)), (a_laws_stack, .inl (cI, 241, .inl laws_stack)), ((rw 0), .inl (cI, 241, .inl laws_c0)), ((rw 1), .inl (cI, 241, .inl laws_c1)), ((rw 2), .inl (cI, 241, .inl laws_c2)), ((rw 3), .inl (cI, 241, .inl laws_c3)), (oX9 a_S (.ref a_S_cells) (.ref a_told) (.ref a_laws)), (a_S_cells, .inl (cI, 69, .inl S_cells))] H locs := hw
  refine lv_if_ne (tgt := 14) hx hb dX9_gains_8 (by decide) (fun hc => ?_) (fun hc => ?_)
  · have hf := (if_neg hc).symm.trans hf
    refine lv_aload_n hx hb dX9_gains_14 rfl (lv_at hl 0 rfl) ?_
    refine va_get (ci := 9) (v := .ref a_told) (C := RX9) (T := TX9) (N := 3) hx hb hts in_X9_gains_X9 hown hK hw.1 11 rfl rfl 1 (by decide) (hts _ lk_X9_gains_0) (fun _ h9 => h9) rfl dX9_gains_15 ?_
    refine lv_iload_n hx hb dX9_gains_18 rfl (lv_at hl 2 rfl) ?_
    obtain ⟨r_3, hg_4, hf⟩ := ob1_some hf
    refine cl_ViA (As := [.int v2]) (rest := []) C K hw (k_X5_hasGlove a_told a_told_house a_told_free a_told_stuffed a_told_after a_told_weight a_told_need told_gloves told_matters told_pride told_coins r_3 v2 hg_4) [0] rfl (by decide) rfl rfl (ci := 5) (j := 0) rfl rfl (cwV 1 hts gX9_gains_X5_hasGlove rfl rfl rfl (by decide +kernel) ⟨Nat.le_of_ble_eq_true rfl, Nat.le_of_ble_eq_true rfl⟩) rfl hl rfl (Nat.le_of_ble_eq_true rfl) dX9_gains_19 ⟨Nat.zero_le _, Nat.zero_le _⟩ (fun H locs hw => ?_)
    have hw : Wo D A s [(oX5 a_told (.int told_gloves) (.int told_matters) (.int told_pride) (.int told_coins) (.ref a_told_house) (.ref a_told_free) (.ref a_told_stuffed) (.ref a_told_after) (.ref a_told_weight) (.ref a_told_need)), (a_told_after, .inl (cI, 6, .inl told_after)), (oX2 a_laws (.int laws_size) (.int laws_holds) (.ref a_laws_codes) (.ref a_laws_lengths) (.ref a_laws_letters) (.ref a_laws_stack)), (a_laws_codes, .inl (cO, 4, .inr (.inr (.inr (.inr (rwF rw)))))), (a_laws_lengths, .inl (cI, 4, .inl laws_lengths)), (a_laws_letters, .inl (cI, 6, .inl laws_letters)), (a_laws_stack, .inl (cI, 241, .inl laws_stack)), ((rw 0), .inl (cI, 241, .inl laws_c0)), ((rw 1), .inl (cI, 241, .inl laws_c1)), ((rw 2), .inl (cI, 241, .inl laws_c2)), ((rw 3), .inl (cI, 241, .inl laws_c3)), (oX9 a_S (.ref a_S_cells) (.ref a_told) (.ref a_laws)), (a_S_cells, .inl (cI, 69, .inl S_cells))] H locs := hw
    refine lv_if_eq (tgt := 42) hx hb dX9_gains_22 (by decide) (fun hc => ?_) (fun hc => ?_)
    · have hf := (if_pos hc).symm.trans hf
      refine lv_iconst (v := (0 : Int32)) hx hb dX9_gains_42 (by decide) ?_
      cases hf
      exact retI C hw dX9_gains_43 rfl
    · have hf := (if_neg hc).symm.trans hf
      refine lv_aload_n hx hb dX9_gains_25 rfl (lv_at hl 0 rfl) ?_
      refine lv_iload_n hx hb dX9_gains_26 rfl (lv_at hl 1 rfl) ?_
      refine lv_iload_n hx hb dX9_gains_27 rfl (lv_at hl 2 rfl) ?_
      obtain ⟨r_5, laws_letters_6, laws_stack_7, hg_8, hf⟩ := ob3_some hf
      refine cl_ViA (As := [.int v1, .int v2]) (rest := []) C K hw (k_X9_riseOf a_told a_told_house a_told_free a_told_stuffed a_told_after a_told_weight a_told_need a_laws a_laws_codes a_laws_lengths a_laws_letters a_laws_stack a_S a_S_cells rw told_gloves told_matters told_pride told_coins told_after laws_size laws_holds laws_lengths laws_c0 laws_c1 laws_c2 laws_c3 S_cells r_5 laws_letters_6 laws_stack_7 laws_letters laws_stack v1 v2 hg_8) [0, 1, 2, 3, 4, 5, 6, 7, 8, 9, 10, 11, 12] rfl (by decide) rfl rfl (ci := 9) (j := 11) rfl rfl (cwV 2 hts gX9_gains_X9_riseOf rfl rfl rfl (by decide +kernel) ⟨Nat.le_of_ble_eq_true rfl, Nat.le_of_ble_eq_true rfl⟩) rfl hl rfl (Nat.le_of_ble_eq_true rfl) dX9_gains_28 ⟨Nat.zero_le _, Nat.zero_le _⟩ (fun H locs hw => ?_)
      have hw : Wo D A s [(oX5 a_told (.int told_gloves) (.int told_matters) (.int told_pride) (.int told_coins) (.ref a_told_house) (.ref a_told_free) (.ref a_told_stuffed) (.ref a_told_after) (.ref a_told_weight) (.ref a_told_need)), (a_told_after, .inl (cI, 6, .inl told_after)), (oX2 a_laws (.int laws_size) (.int laws_holds) (.ref a_laws_codes) (.ref a_laws_lengths) (.ref a_laws_letters) (.ref a_laws_stack)), (a_laws_codes, .inl (cO, 4, .inr (.inr (.inr (.inr (rwF rw)))))), (a_laws_lengths, .inl (cI, 4, .inl laws_lengths)), (a_laws_letters, .inl (cI, 6, .inl laws_letters_6)), (a_laws_stack, .inl (cI, 241, .inl laws_stack_7)), ((rw 0), .inl (cI, 241, .inl laws_c0)), ((rw 1), .inl (cI, 241, .inl laws_c1)), ((rw 2), .inl (cI, 241, .inl laws_c2)), ((rw 3), .inl (cI, 241, .inl laws_c3)), (oX9 a_S (.ref a_S_cells) (.ref a_told) (.ref a_laws)), (a_S_cells, .inl (cI, 69, .inl S_cells))] H locs := hw
      refine lv_aload_n hx hb dX9_gains_31 rfl (lv_at hl 0 rfl) ?_
      refine lv_iload_n hx hb dX9_gains_32 rfl (lv_at hl 1 rfl) ?_
      obtain ⟨r_9, hg_10, hf⟩ := ob1_some hf
      refine cl_ViA (As := [.int v1]) (rest := [.int r_5]) C K hw (k_X9_free a_S a_S_cells a_told a_laws S_cells r_9 v1 hg_10) [11, 12] rfl (by decide) rfl rfl (ci := 9) (j := 11) rfl rfl (cwV 1 hts gX9_gains_X9_free rfl rfl rfl (by decide +kernel) ⟨Nat.le_of_ble_eq_true rfl, Nat.le_of_ble_eq_true rfl⟩) rfl hl rfl (Nat.le_of_ble_eq_true rfl) dX9_gains_33 ⟨Nat.zero_le _, Nat.zero_le _⟩ (fun H locs hw => ?_)
      have hw : Wo D A s [(oX5 a_told (.int told_gloves) (.int told_matters) (.int told_pride) (.int told_coins) (.ref a_told_house) (.ref a_told_free) (.ref a_told_stuffed) (.ref a_told_after) (.ref a_told_weight) (.ref a_told_need)), (a_told_after, .inl (cI, 6, .inl told_after)), (oX2 a_laws (.int laws_size) (.int laws_holds) (.ref a_laws_codes) (.ref a_laws_lengths) (.ref a_laws_letters) (.ref a_laws_stack)), (a_laws_codes, .inl (cO, 4, .inr (.inr (.inr (.inr (rwF rw)))))), (a_laws_lengths, .inl (cI, 4, .inl laws_lengths)), (a_laws_letters, .inl (cI, 6, .inl laws_letters_6)), (a_laws_stack, .inl (cI, 241, .inl laws_stack_7)), ((rw 0), .inl (cI, 241, .inl laws_c0)), ((rw 1), .inl (cI, 241, .inl laws_c1)), ((rw 2), .inl (cI, 241, .inl laws_c2)), ((rw 3), .inl (cI, 241, .inl laws_c3)), (oX9 a_S (.ref a_S_cells) (.ref a_told) (.ref a_laws)), (a_S_cells, .inl (cI, 69, .inl S_cells))] H locs := hw
      refine lv_iconst (v := (3 : Int32)) hx hb dX9_gains_36 (by decide) ?_
      refine lv_idiv hx hb dX9_gains_37 (by decide) ?_
      refine lv_isub hx hb dX9_gains_38 ?_
      refine lv_goto (tgt := 43) hx hb dX9_gains_39 (by decide) ?_
      cases hf
      exact retI C hw dX9_gains_43 rfl
  · have hf := (if_pos hc).symm.trans hf
    refine lv_bipush (v := (-20 : Int32)) hx hb dX9_gains_11 (by decide) ?_
    cases hf
    exact retI C hw dX9_gains_13 rfl
set_option maxHeartbeats 4000000 in
set_option maxRecDepth 100000 in
theorem k_X9_gains {l : Launch} {sx : List sx_T} {D : va_G} {cI cZ cO : ClassId} (a_told : Nat) (a_told_house : Nat) (a_told_free : Nat) (a_told_stuffed : Nat) (a_told_after : Nat) (a_told_weight : Nat) (a_told_need : Nat) (a_laws : Nat) (a_laws_codes : Nat) (a_laws_lengths : Nat) (a_laws_letters : Nat) (a_laws_stack : Nat) (a_S : Nat) (a_S_cells : Nat) (rw : Nat → Nat) (told_gloves : Int32) (told_matters : Int32) (told_pride : Int32) (told_coins : Int32) (told_after : Nat → Int32) (laws_size : Int32) (laws_holds : Int32) (laws_lengths : Nat → Int32) (laws_c0 : Nat → Int32) (laws_c1 : Nat → Int32) (laws_c2 : Nat → Int32) (laws_c3 : Nat → Int32) (S_cells : Nat → Int32) (r0 : Int32) (o_laws_letters : Nat → Int32) (o_laws_stack : Nat → Int32) (laws_letters : Nat → Int32) (laws_stack : Nat → Int32) (p1 : Int32) (p2 : Int32) (hF : f_X9_gains told_gloves told_after laws_holds laws_lengths laws_c0 laws_c1 laws_c2 laws_c3 S_cells laws_letters laws_stack p1 p2 = some (r0, o_laws_letters, o_laws_stack)) : CtI l yX9_gains wsX9_gains rm_X9_gains sx D (tyL cI cZ cO) [.ref a_S, .int p1, .int p2] [(oX5 a_told (.int told_gloves) (.int told_matters) (.int told_pride) (.int told_coins) (.ref a_told_house) (.ref a_told_free) (.ref a_told_stuffed) (.ref a_told_after) (.ref a_told_weight) (.ref a_told_need)), (a_told_after, .inl (cI, 6, .inl told_after)), (oX2 a_laws (.int laws_size) (.int laws_holds) (.ref a_laws_codes) (.ref a_laws_lengths) (.ref a_laws_letters) (.ref a_laws_stack)), (a_laws_codes, .inl (cO, 4, .inr (.inr (.inr (.inr (rwF rw)))))), (a_laws_lengths, .inl (cI, 4, .inl laws_lengths)), (a_laws_letters, .inl (cI, 6, .inl laws_letters)), (a_laws_stack, .inl (cI, 241, .inl laws_stack)), ((rw 0), .inl (cI, 241, .inl laws_c0)), ((rw 1), .inl (cI, 241, .inl laws_c1)), ((rw 2), .inl (cI, 241, .inl laws_c2)), ((rw 3), .inl (cI, 241, .inl laws_c3)), (oX9 a_S (.ref a_S_cells) (.ref a_told) (.ref a_laws)), (a_S_cells, .inl (cI, 69, .inl S_cells))] r0 [(oX5 a_told (.int told_gloves) (.int told_matters) (.int told_pride) (.int told_coins) (.ref a_told_house) (.ref a_told_free) (.ref a_told_stuffed) (.ref a_told_after) (.ref a_told_weight) (.ref a_told_need)), (a_told_after, .inl (cI, 6, .inl told_after)), (oX2 a_laws (.int laws_size) (.int laws_holds) (.ref a_laws_codes) (.ref a_laws_lengths) (.ref a_laws_letters) (.ref a_laws_stack)), (a_laws_codes, .inl (cO, 4, .inr (.inr (.inr (.inr (rwF rw)))))), (a_laws_lengths, .inl (cI, 4, .inl laws_lengths)), (a_laws_letters, .inl (cI, 6, .inl o_laws_letters)), (a_laws_stack, .inl (cI, 241, .inl o_laws_stack)), ((rw 0), .inl (cI, 241, .inl laws_c0)), ((rw 1), .inl (cI, 241, .inl laws_c1)), ((rw 2), .inl (cI, 241, .inl laws_c2)), ((rw 3), .inl (cI, 241, .inl laws_c3)), (oX9 a_S (.ref a_S_cells) (.ref a_told) (.ref a_laws)), (a_S_cells, .inl (cI, 69, .inl S_cells))] := by
  refine ctI_of (cc := cX9_gains) (ret := (some .int)) (maxL := 3) (by decide) rfl (Nat.le_of_ble_eq_true rfl) ?_
  intro p e s m below meth c A ls C K hw hl
  exact q_X9_gains_0 C K a_told a_told_house a_told_free a_told_stuffed a_told_after a_told_weight a_told_need a_laws a_laws_codes a_laws_lengths a_laws_letters a_laws_stack a_S a_S_cells rw told_gloves told_matters told_pride told_coins told_after laws_size laws_holds laws_lengths laws_c0 laws_c1 laws_c2 laws_c3 S_cells r0 o_laws_letters o_laws_stack laws_letters laws_stack p1 p2 hF hw (lv_sub hl [0, 1, 2] rfl)
abbrev rm_X9_freeOf : Room := { frames := 1, cells := 0, slots := 0, locals := 21 }
theorem in_X9_freeOf_X9 : ∀ w ∈ u_ws RX9 TX9 3, w ∈ wsX9_freeOf := fun w h => List.mem_cons_of_mem _ (bi_wsX90 w h)
theorem in_X9_freeOf_X5 : ∀ w ∈ u_ws RX5 TX5 10, w ∈ wsX9_freeOf := fun w h => List.mem_cons_of_mem _ (bi_wsX50 w h)
theorem lk_X9_freeOf_0 : Cond.fieldLink RX9 15 "GloveHouses$State" "told" "LGloveHouses$Peace;" ∈ wsX9_freeOf := List.mem_cons_of_mem _ (bi_wsL_law0_r5 _ (List.mem_of_getElem? (i := 12) rfl))
theorem lk_X9_freeOf_1 : Cond.fieldLink RX9 102 "GloveHouses$Peace" "gloves" "I" ∈ wsX9_freeOf := List.mem_cons_of_mem _ (bi_wsL_law0_r37 _ (List.mem_of_getElem? (i := 4) rfl))
theorem lk_X9_freeOf_2 : Cond.fieldLink RX9 112 "GloveHouses$Peace" "house" "[I" ∈ wsX9_freeOf := List.mem_cons_of_mem _ (bi_wsL_law0_r54 _ (List.mem_of_getElem? (i := 19) rfl))
set_option maxHeartbeats 4000000 in
set_option maxRecDepth 100000 in
theorem q_X9_freeOf_36 {p : Program} {l : Launch} {e : Env} {s : State} {m : MethodId} {args : Array Value} {below : List Frame} {meth : Method} {c : Code} {sx : List sx_T} {D : va_G} {cI cZ cO : ClassId} {A : Nat → Prop} (C : Cx p s m args meth c RX9 wsX9_freeOf cX9_freeOf 4 (some .int)) (K : Kx sx D (tyL cI cZ cO) A s) (a_told : Nat) (a_told_house : Nat) (a_told_free : Nat) (a_told_stuffed : Nat) (a_told_after : Nat) (a_told_weight : Nat) (a_told_need : Nat) (a_S : Nat) (a_S_cells : Nat) (a_laws : Nat) (told_gloves : Int32) (told_matters : Int32) (told_pride : Int32) (told_coins : Int32) (told_house : Nat → Int32) (S_cells : Nat → Int32) (r0 : Int32)   (k4 : Int32 → Int32 → Int32 → Option (Int32)) (hk4 : ∀ (v1 : Int32) (v2 : Int32) (v3 : Int32) (H : Heap) (locs : List Loc) (ls : Array Slot), k4 v1 v2 v3 = some r0 → Wo D A s [(oX5 a_told (.int told_gloves) (.int told_matters) (.int told_pride) (.int told_coins) (.ref a_told_house) (.ref a_told_free) (.ref a_told_stuffed) (.ref a_told_after) (.ref a_told_weight) (.ref a_told_need)), (a_told_house, .inl (cI, 6, .inl told_house)), (oX9 a_S (.ref a_S_cells) (.ref a_told) (.ref a_laws)), (a_S_cells, .inl (cI, 69, .inl S_cells))] H locs → lv_has ls 4 [(0, .ref a_S), (1, .int v1), (2, .int v2), (3, .int v3)] → W p l e rm_X9_freeOf s m args below meth c H locs 0 0 (MQ below (QcI D A r0 [(oX5 a_told (.int told_gloves) (.int told_matters) (.int told_pride) (.int told_coins) (.ref a_told_house) (.ref a_told_free) (.ref a_told_stuffed) (.ref a_told_after) (.ref a_told_weight) (.ref a_told_need)), (a_told_house, .inl (cI, 6, .inl told_house)), (oX9 a_S (.ref a_S_cells) (.ref a_told) (.ref a_laws)), (a_S_cells, .inl (cI, 69, .inl S_cells))]) args s 0 0 A) (F0 m 4 ls [])) (v1 : Int32) (v2 : Int32) (v3 : Int32) {H : Heap} {locs : List Loc} {ls : Array Slot} (hf : b_X9_freeOf_36 told_gloves told_house S_cells k4 v1 v2 v3 = some r0) (hw : Wo D A s [(oX5 a_told (.int told_gloves) (.int told_matters) (.int told_pride) (.int told_coins) (.ref a_told_house) (.ref a_told_free) (.ref a_told_stuffed) (.ref a_told_after) (.ref a_told_weight) (.ref a_told_need)), (a_told_house, .inl (cI, 6, .inl told_house)), (oX9 a_S (.ref a_S_cells) (.ref a_told) (.ref a_laws)), (a_S_cells, .inl (cI, 69, .inl S_cells))] H locs) (hl : lv_has ls 4 [(0, .ref a_S), (1, .int v1), (2, .int v2), (3, .int v3)]) : W p l e rm_X9_freeOf s m args below meth c H locs 0 0 (MQ below (QcI D A r0 [(oX5 a_told (.int told_gloves) (.int told_matters) (.int told_pride) (.int told_coins) (.ref a_told_house) (.ref a_told_free) (.ref a_told_stuffed) (.ref a_told_after) (.ref a_told_weight) (.ref a_told_need)), (a_told_house, .inl (cI, 6, .inl told_house)), (oX9 a_S (.ref a_S_cells) (.ref a_told) (.ref a_laws)), (a_S_cells, .inl (cI, 69, .inl S_cells))]) args s 0 0 A) (F0 m 36 ls []) := by
  obtain ⟨hx, hb, hml, hown, hts, hr, hlk⟩ := id C
  obtain ⟨hK, hX, hA⟩ := id K
  unfold b_X9_freeOf_36 at hf
  obtain ⟨v3_1, e_v3_1, hf⟩ := bnd_some hf
  refine lv_iinc (v := v3_1) (lv' := [(3, .int v3_1), (0, .ref a_S), (1, .int v1), (2, .int v2)]) hx hb dX9_freeOf_36 hl (k := 3) rfl (by rw [e_v3_1]; rfl) (by decide) rfl (fun ls hl => ?_)
  refine lv_goto (tgt := 4) hx hb dX9_freeOf_39 (by decide) ?_
  exact hk4 v1 v2 v3_1 _ _ _ hf hw (lv_sub hl [1, 2, 3, 0] rfl)
set_option maxHeartbeats 4000000 in
set_option maxRecDepth 100000 in
theorem q_X9_freeOf_4 {p : Program} {l : Launch} {e : Env} {s : State} {m : MethodId} {args : Array Value} {below : List Frame} {meth : Method} {c : Code} {sx : List sx_T} {D : va_G} {cI cZ cO : ClassId} {A : Nat → Prop} (C : Cx p s m args meth c RX9 wsX9_freeOf cX9_freeOf 4 (some .int)) (K : Kx sx D (tyL cI cZ cO) A s) (a_told : Nat) (a_told_house : Nat) (a_told_free : Nat) (a_told_stuffed : Nat) (a_told_after : Nat) (a_told_weight : Nat) (a_told_need : Nat) (a_S : Nat) (a_S_cells : Nat) (a_laws : Nat) (told_gloves : Int32) (told_matters : Int32) (told_pride : Int32) (told_coins : Int32) (told_house : Nat → Int32) (S_cells : Nat → Int32) (r0 : Int32)   (k4 : Int32 → Int32 → Int32 → Option (Int32)) (hk4 : ∀ (v1 : Int32) (v2 : Int32) (v3 : Int32) (H : Heap) (locs : List Loc) (ls : Array Slot), k4 v1 v2 v3 = some r0 → Wo D A s [(oX5 a_told (.int told_gloves) (.int told_matters) (.int told_pride) (.int told_coins) (.ref a_told_house) (.ref a_told_free) (.ref a_told_stuffed) (.ref a_told_after) (.ref a_told_weight) (.ref a_told_need)), (a_told_house, .inl (cI, 6, .inl told_house)), (oX9 a_S (.ref a_S_cells) (.ref a_told) (.ref a_laws)), (a_S_cells, .inl (cI, 69, .inl S_cells))] H locs → lv_has ls 4 [(0, .ref a_S), (1, .int v1), (2, .int v2), (3, .int v3)] → W p l e rm_X9_freeOf s m args below meth c H locs 0 0 (MQ below (QcI D A r0 [(oX5 a_told (.int told_gloves) (.int told_matters) (.int told_pride) (.int told_coins) (.ref a_told_house) (.ref a_told_free) (.ref a_told_stuffed) (.ref a_told_after) (.ref a_told_weight) (.ref a_told_need)), (a_told_house, .inl (cI, 6, .inl told_house)), (oX9 a_S (.ref a_S_cells) (.ref a_told) (.ref a_laws)), (a_S_cells, .inl (cI, 69, .inl S_cells))]) args s 0 0 A) (F0 m 4 ls [])) (v1 : Int32) (v2 : Int32) (v3 : Int32) {H : Heap} {locs : List Loc} {ls : Array Slot} (hf : b_X9_freeOf_4 told_gloves told_house S_cells k4 v1 v2 v3 = some r0) (hw : Wo D A s [(oX5 a_told (.int told_gloves) (.int told_matters) (.int told_pride) (.int told_coins) (.ref a_told_house) (.ref a_told_free) (.ref a_told_stuffed) (.ref a_told_after) (.ref a_told_weight) (.ref a_told_need)), (a_told_house, .inl (cI, 6, .inl told_house)), (oX9 a_S (.ref a_S_cells) (.ref a_told) (.ref a_laws)), (a_S_cells, .inl (cI, 69, .inl S_cells))] H locs) (hl : lv_has ls 4 [(0, .ref a_S), (1, .int v1), (2, .int v2), (3, .int v3)]) : W p l e rm_X9_freeOf s m args below meth c H locs 0 0 (MQ below (QcI D A r0 [(oX5 a_told (.int told_gloves) (.int told_matters) (.int told_pride) (.int told_coins) (.ref a_told_house) (.ref a_told_free) (.ref a_told_stuffed) (.ref a_told_after) (.ref a_told_weight) (.ref a_told_need)), (a_told_house, .inl (cI, 6, .inl told_house)), (oX9 a_S (.ref a_S_cells) (.ref a_told) (.ref a_laws)), (a_S_cells, .inl (cI, 69, .inl S_cells))]) args s 0 0 A) (F0 m 4 ls []) := by
  obtain ⟨hx, hb, hml, hown, hts, hr, hlk⟩ := id C
  obtain ⟨hK, hX, hA⟩ := id K
  unfold b_X9_freeOf_4 at hf
  refine lv_iload_n hx hb dX9_freeOf_4 rfl (lv_at hl 3 rfl) ?_
  refine lv_aload_n hx hb dX9_freeOf_5 rfl (lv_at hl 0 rfl) ?_
  refine va_get (ci := 9) (v := .ref a_told) (C := RX9) (T := TX9) (N := 3) hx hb hts in_X9_freeOf_X9 hown hK hw.1 2 rfl rfl 1 (by decide) (hts _ lk_X9_freeOf_0) (fun _ h9 => h9) rfl dX9_freeOf_6 ?_
  refine va_get (ci := 5) (v := .int told_gloves) (C := RX5) (T := TX5) (N := 10) hx hb hts in_X9_freeOf_X5 hown hK hw.1 0 rfl rfl 0 (by decide) (hts _ lk_X9_freeOf_1) (fun _ h9 => h9) rfl dX9_freeOf_9 ?_
  refine lv_icmp_ge (tgt := 42) hx hb dX9_freeOf_12 (by decide) (fun hc => ?_) (fun hc => ?_)
  · have hf := (if_pos hc).symm.trans hf
    refine lv_iload_n hx hb dX9_freeOf_42 rfl (lv_at hl 2 rfl) ?_
    clear hk4; cases hf
    exact retI C hw dX9_freeOf_43 rfl
  · have hf := (if_neg hc).symm.trans hf
    refine lv_aload_n hx hb dX9_freeOf_15 rfl (lv_at hl 0 rfl) ?_
    refine va_get (ci := 9) (v := .ref a_told) (C := RX9) (T := TX9) (N := 3) hx hb hts in_X9_freeOf_X9 hown hK hw.1 2 rfl rfl 1 (by decide) (hts _ lk_X9_freeOf_0) (fun _ h9 => h9) rfl dX9_freeOf_16 ?_
    refine va_get (ci := 5) (v := .ref a_told_house) (C := RX5) (T := TX5) (N := 10) hx hb hts in_X9_freeOf_X5 hown hK hw.1 0 rfl rfl 4 (by decide) (hts _ lk_X9_freeOf_2) (fun _ h9 => h9) rfl dX9_freeOf_19 ?_
    refine lv_iload_n hx hb dX9_freeOf_22 rfl (lv_at hl 3 rfl) ?_
    obtain ⟨hc_1, hf⟩ := gd_some hf
    refine va_iald hx hb hK hw.1 1 0 rfl rfl (inB_in hc_1) dX9_freeOf_23 ?_
    refine lv_iload_n hx hb dX9_freeOf_24 rfl (lv_at hl 1 rfl) ?_
    refine lv_icmp_ne (tgt := 36) hx hb dX9_freeOf_25 (by decide) (fun hc => ?_) (fun hc => ?_)
    · have hf := (if_neg hc).symm.trans hf
      exact q_X9_freeOf_36 C K a_told a_told_house a_told_free a_told_stuffed a_told_after a_told_weight a_told_need a_S a_S_cells a_laws told_gloves told_matters told_pride told_coins told_house S_cells r0 k4 hk4 v1 v2 v3 hf hw (lv_sub hl [0, 1, 2, 3] rfl)
    · have hf := (if_pos hc).symm.trans hf
      refine lv_iload_n hx hb dX9_freeOf_28 rfl (lv_at hl 2 rfl) ?_
      refine lv_aload_n hx hb dX9_freeOf_29 rfl (lv_at hl 0 rfl) ?_
      refine lv_iload_n hx hb dX9_freeOf_30 rfl (lv_at hl 3 rfl) ?_
      obtain ⟨r_2, hg_3, hf⟩ := ob1_some hf
      refine cl_ViA (As := [.int v3]) (rest := [.int v2]) C K hw (k_X9_free a_S a_S_cells a_told a_laws S_cells r_2 v3 hg_3) [2, 3] rfl (by decide) rfl rfl (ci := 9) (j := 2) rfl rfl (cwV 1 hts gX9_freeOf_X9_free rfl rfl rfl (by decide +kernel) ⟨Nat.le_of_ble_eq_true rfl, Nat.le_of_ble_eq_true rfl⟩) rfl hl rfl (Nat.le_of_ble_eq_true rfl) dX9_freeOf_31 ⟨Nat.zero_le _, Nat.zero_le _⟩ (fun H locs hw => ?_)
      have hw : Wo D A s [(oX5 a_told (.int told_gloves) (.int told_matters) (.int told_pride) (.int told_coins) (.ref a_told_house) (.ref a_told_free) (.ref a_told_stuffed) (.ref a_told_after) (.ref a_told_weight) (.ref a_told_need)), (a_told_house, .inl (cI, 6, .inl told_house)), (oX9 a_S (.ref a_S_cells) (.ref a_told) (.ref a_laws)), (a_S_cells, .inl (cI, 69, .inl S_cells))] H locs := hw
      refine lv_iadd hx hb dX9_freeOf_34 ?_
      obtain ⟨v2_4, e_v2_4, hf⟩ := bnd_some hf
      refine lv_nmi e_v2_4 ?_
      refine lv_istore_n (lv' := [(2, .int v2_4), (0, .ref a_S), (1, .int v1), (3, .int v3)]) hx hb dX9_freeOf_35 rfl hl (by decide) rfl (fun ls hl => ?_)
      exact q_X9_freeOf_36 C K a_told a_told_house a_told_free a_told_stuffed a_told_after a_told_weight a_told_need a_S a_S_cells a_laws told_gloves told_matters told_pride told_coins told_house S_cells r0 k4 hk4 v1 v2_4 v3 hf hw (lv_sub hl [1, 2, 0, 3] rfl)
theorem qf_X9_freeOf_4 {p : Program} {l : Launch} {e : Env} {s : State} {m : MethodId} {args : Array Value} {below : List Frame} {meth : Method} {c : Code} {sx : List sx_T} {D : va_G} {cI cZ cO : ClassId} {A : Nat → Prop} (C : Cx p s m args meth c RX9 wsX9_freeOf cX9_freeOf 4 (some .int)) (K : Kx sx D (tyL cI cZ cO) A s) (a_told : Nat) (a_told_house : Nat) (a_told_free : Nat) (a_told_stuffed : Nat) (a_told_after : Nat) (a_told_weight : Nat) (a_told_need : Nat) (a_S : Nat) (a_S_cells : Nat) (a_laws : Nat) (told_gloves : Int32) (told_matters : Int32) (told_pride : Int32) (told_coins : Int32) (told_house : Nat → Int32) (S_cells : Nat → Int32) (r0 : Int32)    (n : Nat) : ∀ (v1 : Int32) (v2 : Int32) (v3 : Int32) (H : Heap) (locs : List Loc) (ls : Array Slot), f_X9_freeOf_4 told_gloves told_house S_cells  n v1 v2 v3 = some r0 → Wo D A s [(oX5 a_told (.int told_gloves) (.int told_matters) (.int told_pride) (.int told_coins) (.ref a_told_house) (.ref a_told_free) (.ref a_told_stuffed) (.ref a_told_after) (.ref a_told_weight) (.ref a_told_need)), (a_told_house, .inl (cI, 6, .inl told_house)), (oX9 a_S (.ref a_S_cells) (.ref a_told) (.ref a_laws)), (a_S_cells, .inl (cI, 69, .inl S_cells))] H locs → lv_has ls 4 [(0, .ref a_S), (1, .int v1), (2, .int v2), (3, .int v3)] → W p l e rm_X9_freeOf s m args below meth c H locs 0 0 (MQ below (QcI D A r0 [(oX5 a_told (.int told_gloves) (.int told_matters) (.int told_pride) (.int told_coins) (.ref a_told_house) (.ref a_told_free) (.ref a_told_stuffed) (.ref a_told_after) (.ref a_told_weight) (.ref a_told_need)), (a_told_house, .inl (cI, 6, .inl told_house)), (oX9 a_S (.ref a_S_cells) (.ref a_told) (.ref a_laws)), (a_S_cells, .inl (cI, 69, .inl S_cells))]) args s 0 0 A) (F0 m 4 ls []) := by
  induction n with
  | zero =>
    intro v1 v2 v3 H locs ls hf
    have h9 : (none : Option (Int32)) = some r0 := hf
    cases h9
  | succ n ih =>
    intro v1 v2 v3 H locs ls hf hw hl
    exact q_X9_freeOf_4 C K a_told a_told_house a_told_free a_told_stuffed a_told_after a_told_weight a_told_need a_S a_S_cells a_laws told_gloves told_matters told_pride told_coins told_house S_cells r0  (f_X9_freeOf_4 told_gloves told_house S_cells  n) ih v1 v2 v3 hf hw hl
set_option maxHeartbeats 4000000 in
set_option maxRecDepth 100000 in
theorem q_X9_freeOf_0 {p : Program} {l : Launch} {e : Env} {s : State} {m : MethodId} {args : Array Value} {below : List Frame} {meth : Method} {c : Code} {sx : List sx_T} {D : va_G} {cI cZ cO : ClassId} {A : Nat → Prop} (C : Cx p s m args meth c RX9 wsX9_freeOf cX9_freeOf 4 (some .int)) (K : Kx sx D (tyL cI cZ cO) A s) (a_told : Nat) (a_told_house : Nat) (a_told_free : Nat) (a_told_stuffed : Nat) (a_told_after : Nat) (a_told_weight : Nat) (a_told_need : Nat) (a_S : Nat) (a_S_cells : Nat) (a_laws : Nat) (told_gloves : Int32) (told_matters : Int32) (told_pride : Int32) (told_coins : Int32) (told_house : Nat → Int32) (S_cells : Nat → Int32) (r0 : Int32)    (v1 : Int32) {H : Heap} {locs : List Loc} {ls : Array Slot} (hf : b_X9_freeOf_0 told_gloves told_house S_cells  v1 = some r0) (hw : Wo D A s [(oX5 a_told (.int told_gloves) (.int told_matters) (.int told_pride) (.int told_coins) (.ref a_told_house) (.ref a_told_free) (.ref a_told_stuffed) (.ref a_told_after) (.ref a_told_weight) (.ref a_told_need)), (a_told_house, .inl (cI, 6, .inl told_house)), (oX9 a_S (.ref a_S_cells) (.ref a_told) (.ref a_laws)), (a_S_cells, .inl (cI, 69, .inl S_cells))] H locs) (hl : lv_has ls 4 [(0, .ref a_S), (1, .int v1)]) : W p l e rm_X9_freeOf s m args below meth c H locs 0 0 (MQ below (QcI D A r0 [(oX5 a_told (.int told_gloves) (.int told_matters) (.int told_pride) (.int told_coins) (.ref a_told_house) (.ref a_told_free) (.ref a_told_stuffed) (.ref a_told_after) (.ref a_told_weight) (.ref a_told_need)), (a_told_house, .inl (cI, 6, .inl told_house)), (oX9 a_S (.ref a_S_cells) (.ref a_told) (.ref a_laws)), (a_S_cells, .inl (cI, 69, .inl S_cells))]) args s 0 0 A) (F0 m 0 ls []) := by
  obtain ⟨hx, hb, hml, hown, hts, hr, hlk⟩ := id C
  obtain ⟨hK, hX, hA⟩ := id K
  unfold b_X9_freeOf_0 at hf
  refine lv_iconst (v := (0 : Int32)) hx hb dX9_freeOf_0 (by decide) ?_
  refine lv_istore_n (lv' := [(2, .int (0 : Int32)), (0, .ref a_S), (1, .int v1)]) hx hb dX9_freeOf_1 rfl hl (by decide) rfl (fun ls hl => ?_)
  refine lv_iconst (v := (0 : Int32)) hx hb dX9_freeOf_2 (by decide) ?_
  refine lv_istore_n (lv' := [(3, .int (0 : Int32)), (2, .int (0 : Int32)), (0, .ref a_S), (1, .int v1)]) hx hb dX9_freeOf_3 rfl hl (by decide) rfl (fun ls hl => ?_)
  exact qf_X9_freeOf_4 C K a_told a_told_house a_told_free a_told_stuffed a_told_after a_told_weight a_told_need a_S a_S_cells a_laws told_gloves told_matters told_pride told_coins told_house S_cells r0  fu v1 (0 : Int32) (0 : Int32) _ _ _ hf hw (lv_sub hl [2, 3, 1, 0] rfl)
set_option maxHeartbeats 4000000 in
set_option maxRecDepth 100000 in
theorem k_X9_freeOf {l : Launch} {sx : List sx_T} {D : va_G} {cI cZ cO : ClassId} (a_told : Nat) (a_told_house : Nat) (a_told_free : Nat) (a_told_stuffed : Nat) (a_told_after : Nat) (a_told_weight : Nat) (a_told_need : Nat) (a_S : Nat) (a_S_cells : Nat) (a_laws : Nat) (told_gloves : Int32) (told_matters : Int32) (told_pride : Int32) (told_coins : Int32) (told_house : Nat → Int32) (S_cells : Nat → Int32) (r0 : Int32) (p1 : Int32) (hF : f_X9_freeOf told_gloves told_house S_cells p1 = some r0) : CtI l yX9_freeOf wsX9_freeOf rm_X9_freeOf sx D (tyL cI cZ cO) [.ref a_S, .int p1] [(oX5 a_told (.int told_gloves) (.int told_matters) (.int told_pride) (.int told_coins) (.ref a_told_house) (.ref a_told_free) (.ref a_told_stuffed) (.ref a_told_after) (.ref a_told_weight) (.ref a_told_need)), (a_told_house, .inl (cI, 6, .inl told_house)), (oX9 a_S (.ref a_S_cells) (.ref a_told) (.ref a_laws)), (a_S_cells, .inl (cI, 69, .inl S_cells))] r0 [(oX5 a_told (.int told_gloves) (.int told_matters) (.int told_pride) (.int told_coins) (.ref a_told_house) (.ref a_told_free) (.ref a_told_stuffed) (.ref a_told_after) (.ref a_told_weight) (.ref a_told_need)), (a_told_house, .inl (cI, 6, .inl told_house)), (oX9 a_S (.ref a_S_cells) (.ref a_told) (.ref a_laws)), (a_S_cells, .inl (cI, 69, .inl S_cells))] := by
  refine ctI_of (cc := cX9_freeOf) (ret := (some .int)) (maxL := 4) (by decide) rfl (Nat.le_of_ble_eq_true rfl) ?_
  intro p e s m below meth c A ls C K hw hl
  exact q_X9_freeOf_0 C K a_told a_told_house a_told_free a_told_stuffed a_told_after a_told_weight a_told_need a_S a_S_cells a_laws told_gloves told_matters told_pride told_coins told_house S_cells r0 p1 hF hw (lv_sub hl [0, 1] rfl)
abbrev rm_X9_signedBits : Room := { frames := 1, cells := 0, slots := 0, locals := 21 }
theorem in_X9_signedBits_X9 : ∀ w ∈ u_ws RX9 TX9 3, w ∈ wsX9_signedBits := fun w h => List.mem_cons_of_mem _ (bi_wsX90 w h)
theorem in_X9_signedBits_X5 : ∀ w ∈ u_ws RX5 TX5 10, w ∈ wsX9_signedBits := fun w h => List.mem_cons_of_mem _ (bi_wsX50 w h)
theorem lk_X9_signedBits_0 : Cond.fieldLink RX9 15 "GloveHouses$State" "told" "LGloveHouses$Peace;" ∈ wsX9_signedBits := List.mem_cons_of_mem _ (bi_wsL_law0_r5 _ (List.mem_of_getElem? (i := 12) rfl))
theorem lk_X9_signedBits_1 : Cond.fieldLink RX9 93 "GloveHouses$Peace" "matters" "I" ∈ wsX9_signedBits := List.mem_cons_of_mem _ (bi_wsL_law0_r31 _ (List.mem_of_getElem? (i := 8) rfl))
set_option maxHeartbeats 4000000 in
set_option maxRecDepth 100000 in
theorem q_X9_signedBits_30 {p : Program} {l : Launch} {e : Env} {s : State} {m : MethodId} {args : Array Value} {below : List Frame} {meth : Method} {c : Code} {sx : List sx_T} {D : va_G} {cI cZ cO : ClassId} {A : Nat → Prop} (C : Cx p s m args meth c RX9 wsX9_signedBits cX9_signedBits 3 (some .int)) (K : Kx sx D (tyL cI cZ cO) A s) (a_told : Nat) (a_told_house : Nat) (a_told_free : Nat) (a_told_stuffed : Nat) (a_told_after : Nat) (a_told_weight : Nat) (a_told_need : Nat) (a_S : Nat) (a_S_cells : Nat) (a_laws : Nat) (told_gloves : Int32) (told_matters : Int32) (told_pride : Int32) (told_coins : Int32) (S_cells : Nat → Int32) (r0 : Int32)   (k4 : Int32 → Int32 → Option (Int32)) (hk4 : ∀ (v1 : Int32) (v2 : Int32) (H : Heap) (locs : List Loc) (ls : Array Slot), k4 v1 v2 = some r0 → Wo D A s [(oX5 a_told (.int told_gloves) (.int told_matters) (.int told_pride) (.int told_coins) (.ref a_told_house) (.ref a_told_free) (.ref a_told_stuffed) (.ref a_told_after) (.ref a_told_weight) (.ref a_told_need)), (oX9 a_S (.ref a_S_cells) (.ref a_told) (.ref a_laws)), (a_S_cells, .inl (cI, 69, .inl S_cells))] H locs → lv_has ls 3 [(0, .ref a_S), (1, .int v1), (2, .int v2)] → W p l e rm_X9_signedBits s m args below meth c H locs 0 0 (MQ below (QcI D A r0 [(oX5 a_told (.int told_gloves) (.int told_matters) (.int told_pride) (.int told_coins) (.ref a_told_house) (.ref a_told_free) (.ref a_told_stuffed) (.ref a_told_after) (.ref a_told_weight) (.ref a_told_need)), (oX9 a_S (.ref a_S_cells) (.ref a_told) (.ref a_laws)), (a_S_cells, .inl (cI, 69, .inl S_cells))]) args s 0 0 A) (F0 m 4 ls [])) (v1 : Int32) (v2 : Int32) {H : Heap} {locs : List Loc} {ls : Array Slot} (hf : b_X9_signedBits_30 told_matters S_cells k4 v1 v2 = some r0) (hw : Wo D A s [(oX5 a_told (.int told_gloves) (.int told_matters) (.int told_pride) (.int told_coins) (.ref a_told_house) (.ref a_told_free) (.ref a_told_stuffed) (.ref a_told_after) (.ref a_told_weight) (.ref a_told_need)), (oX9 a_S (.ref a_S_cells) (.ref a_told) (.ref a_laws)), (a_S_cells, .inl (cI, 69, .inl S_cells))] H locs) (hl : lv_has ls 3 [(0, .ref a_S), (1, .int v1), (2, .int v2)]) : W p l e rm_X9_signedBits s m args below meth c H locs 0 0 (MQ below (QcI D A r0 [(oX5 a_told (.int told_gloves) (.int told_matters) (.int told_pride) (.int told_coins) (.ref a_told_house) (.ref a_told_free) (.ref a_told_stuffed) (.ref a_told_after) (.ref a_told_weight) (.ref a_told_need)), (oX9 a_S (.ref a_S_cells) (.ref a_told) (.ref a_laws)), (a_S_cells, .inl (cI, 69, .inl S_cells))]) args s 0 0 A) (F0 m 30 ls []) := by
  obtain ⟨hx, hb, hml, hown, hts, hr, hlk⟩ := id C
  obtain ⟨hK, hX, hA⟩ := id K
  unfold b_X9_signedBits_30 at hf
  obtain ⟨v2_1, e_v2_1, hf⟩ := bnd_some hf
  refine lv_iinc (v := v2_1) (lv' := [(2, .int v2_1), (0, .ref a_S), (1, .int v1)]) hx hb dX9_signedBits_30 hl (k := 2) rfl (by rw [e_v2_1]; rfl) (by decide) rfl (fun ls hl => ?_)
  refine lv_goto (tgt := 4) hx hb dX9_signedBits_33 (by decide) ?_
  exact hk4 v1 v2_1 _ _ _ hf hw (lv_sub hl [1, 2, 0] rfl)
set_option maxHeartbeats 4000000 in
set_option maxRecDepth 100000 in
theorem q_X9_signedBits_4 {p : Program} {l : Launch} {e : Env} {s : State} {m : MethodId} {args : Array Value} {below : List Frame} {meth : Method} {c : Code} {sx : List sx_T} {D : va_G} {cI cZ cO : ClassId} {A : Nat → Prop} (C : Cx p s m args meth c RX9 wsX9_signedBits cX9_signedBits 3 (some .int)) (K : Kx sx D (tyL cI cZ cO) A s) (a_told : Nat) (a_told_house : Nat) (a_told_free : Nat) (a_told_stuffed : Nat) (a_told_after : Nat) (a_told_weight : Nat) (a_told_need : Nat) (a_S : Nat) (a_S_cells : Nat) (a_laws : Nat) (told_gloves : Int32) (told_matters : Int32) (told_pride : Int32) (told_coins : Int32) (S_cells : Nat → Int32) (r0 : Int32)   (k4 : Int32 → Int32 → Option (Int32)) (hk4 : ∀ (v1 : Int32) (v2 : Int32) (H : Heap) (locs : List Loc) (ls : Array Slot), k4 v1 v2 = some r0 → Wo D A s [(oX5 a_told (.int told_gloves) (.int told_matters) (.int told_pride) (.int told_coins) (.ref a_told_house) (.ref a_told_free) (.ref a_told_stuffed) (.ref a_told_after) (.ref a_told_weight) (.ref a_told_need)), (oX9 a_S (.ref a_S_cells) (.ref a_told) (.ref a_laws)), (a_S_cells, .inl (cI, 69, .inl S_cells))] H locs → lv_has ls 3 [(0, .ref a_S), (1, .int v1), (2, .int v2)] → W p l e rm_X9_signedBits s m args below meth c H locs 0 0 (MQ below (QcI D A r0 [(oX5 a_told (.int told_gloves) (.int told_matters) (.int told_pride) (.int told_coins) (.ref a_told_house) (.ref a_told_free) (.ref a_told_stuffed) (.ref a_told_after) (.ref a_told_weight) (.ref a_told_need)), (oX9 a_S (.ref a_S_cells) (.ref a_told) (.ref a_laws)), (a_S_cells, .inl (cI, 69, .inl S_cells))]) args s 0 0 A) (F0 m 4 ls [])) (v1 : Int32) (v2 : Int32) {H : Heap} {locs : List Loc} {ls : Array Slot} (hf : b_X9_signedBits_4 told_matters S_cells k4 v1 v2 = some r0) (hw : Wo D A s [(oX5 a_told (.int told_gloves) (.int told_matters) (.int told_pride) (.int told_coins) (.ref a_told_house) (.ref a_told_free) (.ref a_told_stuffed) (.ref a_told_after) (.ref a_told_weight) (.ref a_told_need)), (oX9 a_S (.ref a_S_cells) (.ref a_told) (.ref a_laws)), (a_S_cells, .inl (cI, 69, .inl S_cells))] H locs) (hl : lv_has ls 3 [(0, .ref a_S), (1, .int v1), (2, .int v2)]) : W p l e rm_X9_signedBits s m args below meth c H locs 0 0 (MQ below (QcI D A r0 [(oX5 a_told (.int told_gloves) (.int told_matters) (.int told_pride) (.int told_coins) (.ref a_told_house) (.ref a_told_free) (.ref a_told_stuffed) (.ref a_told_after) (.ref a_told_weight) (.ref a_told_need)), (oX9 a_S (.ref a_S_cells) (.ref a_told) (.ref a_laws)), (a_S_cells, .inl (cI, 69, .inl S_cells))]) args s 0 0 A) (F0 m 4 ls []) := by
  obtain ⟨hx, hb, hml, hown, hts, hr, hlk⟩ := id C
  obtain ⟨hK, hX, hA⟩ := id K
  unfold b_X9_signedBits_4 at hf
  refine lv_iload_n hx hb dX9_signedBits_4 rfl (lv_at hl 2 rfl) ?_
  refine lv_aload_n hx hb dX9_signedBits_5 rfl (lv_at hl 0 rfl) ?_
  refine va_get (ci := 9) (v := .ref a_told) (C := RX9) (T := TX9) (N := 3) hx hb hts in_X9_signedBits_X9 hown hK hw.1 1 rfl rfl 1 (by decide) (hts _ lk_X9_signedBits_0) (fun _ h9 => h9) rfl dX9_signedBits_6 ?_
  refine va_get (ci := 5) (v := .int told_matters) (C := RX5) (T := TX5) (N := 10) hx hb hts in_X9_signedBits_X5 hown hK hw.1 0 rfl rfl 1 (by decide) (hts _ lk_X9_signedBits_1) (fun _ h9 => h9) rfl dX9_signedBits_9 ?_
  refine lv_icmp_ge (tgt := 36) hx hb dX9_signedBits_12 (by decide) (fun hc => ?_) (fun hc => ?_)
  · have hf := (if_pos hc).symm.trans hf
    refine lv_iload_n hx hb dX9_signedBits_36 rfl (lv_at hl 1 rfl) ?_
    clear hk4; cases hf
    exact retI C hw dX9_signedBits_37 rfl
  · have hf := (if_neg hc).symm.trans hf
    refine lv_aload_n hx hb dX9_signedBits_15 rfl (lv_at hl 0 rfl) ?_
    refine lv_iload_n hx hb dX9_signedBits_16 rfl (lv_at hl 2 rfl) ?_
    obtain ⟨r_1, hg_2, hf⟩ := ob1_some hf
    refine cl_ViA (As := [.int v2]) (rest := []) C K hw (k_X9_signers a_S a_S_cells a_told a_laws S_cells r_1 v2 hg_2) [1, 2] rfl (by decide) rfl rfl (ci := 9) (j := 1) rfl rfl (cwV 1 hts gX9_signedBits_X9_signers rfl rfl rfl (by decide +kernel) ⟨Nat.le_of_ble_eq_true rfl, Nat.le_of_ble_eq_true rfl⟩) rfl hl rfl (Nat.le_of_ble_eq_true rfl) dX9_signedBits_17 ⟨Nat.zero_le _, Nat.zero_le _⟩ (fun H locs hw => ?_)
    have hw : Wo D A s [(oX5 a_told (.int told_gloves) (.int told_matters) (.int told_pride) (.int told_coins) (.ref a_told_house) (.ref a_told_free) (.ref a_told_stuffed) (.ref a_told_after) (.ref a_told_weight) (.ref a_told_need)), (oX9 a_S (.ref a_S_cells) (.ref a_told) (.ref a_laws)), (a_S_cells, .inl (cI, 69, .inl S_cells))] H locs := hw
    refine lv_iconst (v := (-1 : Int32)) hx hb dX9_signedBits_20 (by decide) ?_
    refine lv_icmp_eq (tgt := 30) hx hb dX9_signedBits_21 (by decide) (fun hc => ?_) (fun hc => ?_)
    · have hf := (if_pos hc).symm.trans hf
      exact q_X9_signedBits_30 C K a_told a_told_house a_told_free a_told_stuffed a_told_after a_told_weight a_told_need a_S a_S_cells a_laws told_gloves told_matters told_pride told_coins S_cells r0 k4 hk4 v1 v2 hf hw (lv_sub hl [0, 1, 2] rfl)
    · have hf := (if_neg hc).symm.trans hf
      refine lv_iload_n hx hb dX9_signedBits_24 rfl (lv_at hl 1 rfl) ?_
      refine lv_iconst (v := (1 : Int32)) hx hb dX9_signedBits_25 (by decide) ?_
      refine lv_iload_n hx hb dX9_signedBits_26 rfl (lv_at hl 2 rfl) ?_
      refine lv_ishl hx hb dX9_signedBits_27 ?_
      refine lv_ior hx hb dX9_signedBits_28 ?_
      obtain ⟨v1_3, e_v1_3, hf⟩ := bnd_some hf
      refine lv_nmi e_v1_3 ?_
      refine lv_istore_n (lv' := [(1, .int v1_3), (0, .ref a_S), (2, .int v2)]) hx hb dX9_signedBits_29 rfl hl (by decide) rfl (fun ls hl => ?_)
      exact q_X9_signedBits_30 C K a_told a_told_house a_told_free a_told_stuffed a_told_after a_told_weight a_told_need a_S a_S_cells a_laws told_gloves told_matters told_pride told_coins S_cells r0 k4 hk4 v1_3 v2 hf hw (lv_sub hl [1, 0, 2] rfl)
theorem qf_X9_signedBits_4 {p : Program} {l : Launch} {e : Env} {s : State} {m : MethodId} {args : Array Value} {below : List Frame} {meth : Method} {c : Code} {sx : List sx_T} {D : va_G} {cI cZ cO : ClassId} {A : Nat → Prop} (C : Cx p s m args meth c RX9 wsX9_signedBits cX9_signedBits 3 (some .int)) (K : Kx sx D (tyL cI cZ cO) A s) (a_told : Nat) (a_told_house : Nat) (a_told_free : Nat) (a_told_stuffed : Nat) (a_told_after : Nat) (a_told_weight : Nat) (a_told_need : Nat) (a_S : Nat) (a_S_cells : Nat) (a_laws : Nat) (told_gloves : Int32) (told_matters : Int32) (told_pride : Int32) (told_coins : Int32) (S_cells : Nat → Int32) (r0 : Int32)    (n : Nat) : ∀ (v1 : Int32) (v2 : Int32) (H : Heap) (locs : List Loc) (ls : Array Slot), f_X9_signedBits_4 told_matters S_cells  n v1 v2 = some r0 → Wo D A s [(oX5 a_told (.int told_gloves) (.int told_matters) (.int told_pride) (.int told_coins) (.ref a_told_house) (.ref a_told_free) (.ref a_told_stuffed) (.ref a_told_after) (.ref a_told_weight) (.ref a_told_need)), (oX9 a_S (.ref a_S_cells) (.ref a_told) (.ref a_laws)), (a_S_cells, .inl (cI, 69, .inl S_cells))] H locs → lv_has ls 3 [(0, .ref a_S), (1, .int v1), (2, .int v2)] → W p l e rm_X9_signedBits s m args below meth c H locs 0 0 (MQ below (QcI D A r0 [(oX5 a_told (.int told_gloves) (.int told_matters) (.int told_pride) (.int told_coins) (.ref a_told_house) (.ref a_told_free) (.ref a_told_stuffed) (.ref a_told_after) (.ref a_told_weight) (.ref a_told_need)), (oX9 a_S (.ref a_S_cells) (.ref a_told) (.ref a_laws)), (a_S_cells, .inl (cI, 69, .inl S_cells))]) args s 0 0 A) (F0 m 4 ls []) := by
  induction n with
  | zero =>
    intro v1 v2 H locs ls hf
    have h9 : (none : Option (Int32)) = some r0 := hf
    cases h9
  | succ n ih =>
    intro v1 v2 H locs ls hf hw hl
    exact q_X9_signedBits_4 C K a_told a_told_house a_told_free a_told_stuffed a_told_after a_told_weight a_told_need a_S a_S_cells a_laws told_gloves told_matters told_pride told_coins S_cells r0  (f_X9_signedBits_4 told_matters S_cells  n) ih v1 v2 hf hw hl
set_option maxHeartbeats 4000000 in
set_option maxRecDepth 100000 in
theorem q_X9_signedBits_0 {p : Program} {l : Launch} {e : Env} {s : State} {m : MethodId} {args : Array Value} {below : List Frame} {meth : Method} {c : Code} {sx : List sx_T} {D : va_G} {cI cZ cO : ClassId} {A : Nat → Prop} (C : Cx p s m args meth c RX9 wsX9_signedBits cX9_signedBits 3 (some .int)) (K : Kx sx D (tyL cI cZ cO) A s) (a_told : Nat) (a_told_house : Nat) (a_told_free : Nat) (a_told_stuffed : Nat) (a_told_after : Nat) (a_told_weight : Nat) (a_told_need : Nat) (a_S : Nat) (a_S_cells : Nat) (a_laws : Nat) (told_gloves : Int32) (told_matters : Int32) (told_pride : Int32) (told_coins : Int32) (S_cells : Nat → Int32) (r0 : Int32)     {H : Heap} {locs : List Loc} {ls : Array Slot} (hf : b_X9_signedBits_0 told_matters S_cells   = some r0) (hw : Wo D A s [(oX5 a_told (.int told_gloves) (.int told_matters) (.int told_pride) (.int told_coins) (.ref a_told_house) (.ref a_told_free) (.ref a_told_stuffed) (.ref a_told_after) (.ref a_told_weight) (.ref a_told_need)), (oX9 a_S (.ref a_S_cells) (.ref a_told) (.ref a_laws)), (a_S_cells, .inl (cI, 69, .inl S_cells))] H locs) (hl : lv_has ls 3 [(0, .ref a_S)]) : W p l e rm_X9_signedBits s m args below meth c H locs 0 0 (MQ below (QcI D A r0 [(oX5 a_told (.int told_gloves) (.int told_matters) (.int told_pride) (.int told_coins) (.ref a_told_house) (.ref a_told_free) (.ref a_told_stuffed) (.ref a_told_after) (.ref a_told_weight) (.ref a_told_need)), (oX9 a_S (.ref a_S_cells) (.ref a_told) (.ref a_laws)), (a_S_cells, .inl (cI, 69, .inl S_cells))]) args s 0 0 A) (F0 m 0 ls []) := by
  obtain ⟨hx, hb, hml, hown, hts, hr, hlk⟩ := id C
  obtain ⟨hK, hX, hA⟩ := id K
  unfold b_X9_signedBits_0 at hf
  refine lv_iconst (v := (0 : Int32)) hx hb dX9_signedBits_0 (by decide) ?_
  refine lv_istore_n (lv' := [(1, .int (0 : Int32)), (0, .ref a_S)]) hx hb dX9_signedBits_1 rfl hl (by decide) rfl (fun ls hl => ?_)
  refine lv_iconst (v := (0 : Int32)) hx hb dX9_signedBits_2 (by decide) ?_
  refine lv_istore_n (lv' := [(2, .int (0 : Int32)), (1, .int (0 : Int32)), (0, .ref a_S)]) hx hb dX9_signedBits_3 rfl hl (by decide) rfl (fun ls hl => ?_)
  exact qf_X9_signedBits_4 C K a_told a_told_house a_told_free a_told_stuffed a_told_after a_told_weight a_told_need a_S a_S_cells a_laws told_gloves told_matters told_pride told_coins S_cells r0  fu (0 : Int32) (0 : Int32) _ _ _ hf hw (lv_sub hl [2, 1, 0] rfl)
set_option maxHeartbeats 4000000 in
set_option maxRecDepth 100000 in
theorem k_X9_signedBits {l : Launch} {sx : List sx_T} {D : va_G} {cI cZ cO : ClassId} (a_told : Nat) (a_told_house : Nat) (a_told_free : Nat) (a_told_stuffed : Nat) (a_told_after : Nat) (a_told_weight : Nat) (a_told_need : Nat) (a_S : Nat) (a_S_cells : Nat) (a_laws : Nat) (told_gloves : Int32) (told_matters : Int32) (told_pride : Int32) (told_coins : Int32) (S_cells : Nat → Int32) (r0 : Int32) (hF : f_X9_signedBits told_matters S_cells = some r0) : CtI l yX9_signedBits wsX9_signedBits rm_X9_signedBits sx D (tyL cI cZ cO) [.ref a_S] [(oX5 a_told (.int told_gloves) (.int told_matters) (.int told_pride) (.int told_coins) (.ref a_told_house) (.ref a_told_free) (.ref a_told_stuffed) (.ref a_told_after) (.ref a_told_weight) (.ref a_told_need)), (oX9 a_S (.ref a_S_cells) (.ref a_told) (.ref a_laws)), (a_S_cells, .inl (cI, 69, .inl S_cells))] r0 [(oX5 a_told (.int told_gloves) (.int told_matters) (.int told_pride) (.int told_coins) (.ref a_told_house) (.ref a_told_free) (.ref a_told_stuffed) (.ref a_told_after) (.ref a_told_weight) (.ref a_told_need)), (oX9 a_S (.ref a_S_cells) (.ref a_told) (.ref a_laws)), (a_S_cells, .inl (cI, 69, .inl S_cells))] := by
  refine ctI_of (cc := cX9_signedBits) (ret := (some .int)) (maxL := 3) (by decide) rfl (Nat.le_of_ble_eq_true rfl) ?_
  intro p e s m below meth c A ls C K hw hl
  exact q_X9_signedBits_0 C K a_told a_told_house a_told_free a_told_stuffed a_told_after a_told_weight a_told_need a_S a_S_cells a_laws told_gloves told_matters told_pride told_coins S_cells r0  hF hw (lv_sub hl [0] rfl)
abbrev rm_X9_pairMost : Room := { frames := 2, cells := 0, slots := 0, locals := 43 }
theorem in_X9_pairMost_X9 : ∀ w ∈ u_ws RX9 TX9 3, w ∈ wsX9_pairMost := fun w h => List.mem_cons_of_mem _ (bi_wsX90 w h)
theorem in_X9_pairMost_X5 : ∀ w ∈ u_ws RX5 TX5 10, w ∈ wsX9_pairMost := fun w h => List.mem_cons_of_mem _ (bi_wsX50 w h)
theorem lk_X9_pairMost_0 : Cond.fieldLink RX9 15 "GloveHouses$State" "told" "LGloveHouses$Peace;" ∈ wsX9_pairMost := List.mem_cons_of_mem _ (bi_wsL_law0_r5 _ (List.mem_of_getElem? (i := 12) rfl))
theorem lk_X9_pairMost_1 : Cond.fieldLink RX9 102 "GloveHouses$Peace" "gloves" "I" ∈ wsX9_pairMost := List.mem_cons_of_mem _ (bi_wsL_law0_r37 _ (List.mem_of_getElem? (i := 4) rfl))
set_option maxHeartbeats 4000000 in
set_option maxRecDepth 100000 in
theorem q_X9_pairMost_83 {p : Program} {l : Launch} {e : Env} {s : State} {m : MethodId} {args : Array Value} {below : List Frame} {meth : Method} {c : Code} {sx : List sx_T} {D : va_G} {cI cZ cO : ClassId} {A : Nat → Prop} (C : Cx p s m args meth c RX9 wsX9_pairMost cX9_pairMost 5 (some .int)) (K : Kx sx D (tyL cI cZ cO) A s) (a_told : Nat) (a_told_house : Nat) (a_told_free : Nat) (a_told_stuffed : Nat) (a_told_after : Nat) (a_told_weight : Nat) (a_told_need : Nat) (a_S : Nat) (a_S_cells : Nat) (a_laws : Nat) (told_gloves : Int32) (told_matters : Int32) (told_pride : Int32) (told_coins : Int32) (told_house : Nat → Int32) (S_cells : Nat → Int32) (r0 : Int32)   (k4 : Int32 → Int32 → Int32 → Option (Int32)) (hk4 : ∀ (v1 : Int32) (v2 : Int32) (v3 : Int32) (H : Heap) (locs : List Loc) (ls : Array Slot), k4 v1 v2 v3 = some r0 → Wo D A s [(oX5 a_told (.int told_gloves) (.int told_matters) (.int told_pride) (.int told_coins) (.ref a_told_house) (.ref a_told_free) (.ref a_told_stuffed) (.ref a_told_after) (.ref a_told_weight) (.ref a_told_need)), (a_told_house, .inl (cI, 6, .inl told_house)), (oX9 a_S (.ref a_S_cells) (.ref a_told) (.ref a_laws)), (a_S_cells, .inl (cI, 69, .inl S_cells))] H locs → lv_has ls 5 [(0, .ref a_S), (1, .int v1), (2, .int v2), (3, .int v3)] → W p l e rm_X9_pairMost s m args below meth c H locs 0 0 (MQ below (QcI D A r0 [(oX5 a_told (.int told_gloves) (.int told_matters) (.int told_pride) (.int told_coins) (.ref a_told_house) (.ref a_told_free) (.ref a_told_stuffed) (.ref a_told_after) (.ref a_told_weight) (.ref a_told_need)), (a_told_house, .inl (cI, 6, .inl told_house)), (oX9 a_S (.ref a_S_cells) (.ref a_told) (.ref a_laws)), (a_S_cells, .inl (cI, 69, .inl S_cells))]) args s 0 0 A) (F0 m 4 ls [])) (k20 : Int32 → Int32 → Int32 → Int32 → Option (Int32)) (hk20 : ∀ (v1 : Int32) (v2 : Int32) (v3 : Int32) (v4 : Int32) (H : Heap) (locs : List Loc) (ls : Array Slot), k20 v1 v2 v3 v4 = some r0 → Wo D A s [(oX5 a_told (.int told_gloves) (.int told_matters) (.int told_pride) (.int told_coins) (.ref a_told_house) (.ref a_told_free) (.ref a_told_stuffed) (.ref a_told_after) (.ref a_told_weight) (.ref a_told_need)), (a_told_house, .inl (cI, 6, .inl told_house)), (oX9 a_S (.ref a_S_cells) (.ref a_told) (.ref a_laws)), (a_S_cells, .inl (cI, 69, .inl S_cells))] H locs → lv_has ls 5 [(0, .ref a_S), (1, .int v1), (2, .int v2), (3, .int v3), (4, .int v4)] → W p l e rm_X9_pairMost s m args below meth c H locs 0 0 (MQ below (QcI D A r0 [(oX5 a_told (.int told_gloves) (.int told_matters) (.int told_pride) (.int told_coins) (.ref a_told_house) (.ref a_told_free) (.ref a_told_stuffed) (.ref a_told_after) (.ref a_told_weight) (.ref a_told_need)), (a_told_house, .inl (cI, 6, .inl told_house)), (oX9 a_S (.ref a_S_cells) (.ref a_told) (.ref a_laws)), (a_S_cells, .inl (cI, 69, .inl S_cells))]) args s 0 0 A) (F0 m 20 ls [])) (v1 : Int32) (v2 : Int32) (v3 : Int32) (v4 : Int32) {H : Heap} {locs : List Loc} {ls : Array Slot} (hf : b_X9_pairMost_83 told_gloves told_house S_cells k4 k20 v1 v2 v3 v4 = some r0) (hw : Wo D A s [(oX5 a_told (.int told_gloves) (.int told_matters) (.int told_pride) (.int told_coins) (.ref a_told_house) (.ref a_told_free) (.ref a_told_stuffed) (.ref a_told_after) (.ref a_told_weight) (.ref a_told_need)), (a_told_house, .inl (cI, 6, .inl told_house)), (oX9 a_S (.ref a_S_cells) (.ref a_told) (.ref a_laws)), (a_S_cells, .inl (cI, 69, .inl S_cells))] H locs) (hl : lv_has ls 5 [(0, .ref a_S), (1, .int v1), (2, .int v2), (3, .int v3), (4, .int v4)]) : W p l e rm_X9_pairMost s m args below meth c H locs 0 0 (MQ below (QcI D A r0 [(oX5 a_told (.int told_gloves) (.int told_matters) (.int told_pride) (.int told_coins) (.ref a_told_house) (.ref a_told_free) (.ref a_told_stuffed) (.ref a_told_after) (.ref a_told_weight) (.ref a_told_need)), (a_told_house, .inl (cI, 6, .inl told_house)), (oX9 a_S (.ref a_S_cells) (.ref a_told) (.ref a_laws)), (a_S_cells, .inl (cI, 69, .inl S_cells))]) args s 0 0 A) (F0 m 83 ls []) := by
  obtain ⟨hx, hb, hml, hown, hts, hr, hlk⟩ := id C
  obtain ⟨hK, hX, hA⟩ := id K
  unfold b_X9_pairMost_83 at hf
  obtain ⟨v4_1, e_v4_1, hf⟩ := bnd_some hf
  refine lv_iinc (v := v4_1) (lv' := [(4, .int v4_1), (0, .ref a_S), (1, .int v1), (2, .int v2), (3, .int v3)]) hx hb dX9_pairMost_83 hl (k := 4) rfl (by rw [e_v4_1]; rfl) (by decide) rfl (fun ls hl => ?_)
  refine lv_goto (tgt := 20) hx hb dX9_pairMost_86 (by decide) ?_
  exact hk20 v1 v2 v3 v4_1 _ _ _ hf hw (lv_sub hl [1, 2, 3, 4, 0] rfl)
set_option maxHeartbeats 4000000 in
set_option maxRecDepth 100000 in
theorem q_X9_pairMost_75 {p : Program} {l : Launch} {e : Env} {s : State} {m : MethodId} {args : Array Value} {below : List Frame} {meth : Method} {c : Code} {sx : List sx_T} {D : va_G} {cI cZ cO : ClassId} {A : Nat → Prop} (C : Cx p s m args meth c RX9 wsX9_pairMost cX9_pairMost 5 (some .int)) (K : Kx sx D (tyL cI cZ cO) A s) (a_told : Nat) (a_told_house : Nat) (a_told_free : Nat) (a_told_stuffed : Nat) (a_told_after : Nat) (a_told_weight : Nat) (a_told_need : Nat) (a_S : Nat) (a_S_cells : Nat) (a_laws : Nat) (told_gloves : Int32) (told_matters : Int32) (told_pride : Int32) (told_coins : Int32) (told_house : Nat → Int32) (S_cells : Nat → Int32) (r0 : Int32)   (k4 : Int32 → Int32 → Int32 → Option (Int32)) (hk4 : ∀ (v1 : Int32) (v2 : Int32) (v3 : Int32) (H : Heap) (locs : List Loc) (ls : Array Slot), k4 v1 v2 v3 = some r0 → Wo D A s [(oX5 a_told (.int told_gloves) (.int told_matters) (.int told_pride) (.int told_coins) (.ref a_told_house) (.ref a_told_free) (.ref a_told_stuffed) (.ref a_told_after) (.ref a_told_weight) (.ref a_told_need)), (a_told_house, .inl (cI, 6, .inl told_house)), (oX9 a_S (.ref a_S_cells) (.ref a_told) (.ref a_laws)), (a_S_cells, .inl (cI, 69, .inl S_cells))] H locs → lv_has ls 5 [(0, .ref a_S), (1, .int v1), (2, .int v2), (3, .int v3)] → W p l e rm_X9_pairMost s m args below meth c H locs 0 0 (MQ below (QcI D A r0 [(oX5 a_told (.int told_gloves) (.int told_matters) (.int told_pride) (.int told_coins) (.ref a_told_house) (.ref a_told_free) (.ref a_told_stuffed) (.ref a_told_after) (.ref a_told_weight) (.ref a_told_need)), (a_told_house, .inl (cI, 6, .inl told_house)), (oX9 a_S (.ref a_S_cells) (.ref a_told) (.ref a_laws)), (a_S_cells, .inl (cI, 69, .inl S_cells))]) args s 0 0 A) (F0 m 4 ls [])) (k20 : Int32 → Int32 → Int32 → Int32 → Option (Int32)) (hk20 : ∀ (v1 : Int32) (v2 : Int32) (v3 : Int32) (v4 : Int32) (H : Heap) (locs : List Loc) (ls : Array Slot), k20 v1 v2 v3 v4 = some r0 → Wo D A s [(oX5 a_told (.int told_gloves) (.int told_matters) (.int told_pride) (.int told_coins) (.ref a_told_house) (.ref a_told_free) (.ref a_told_stuffed) (.ref a_told_after) (.ref a_told_weight) (.ref a_told_need)), (a_told_house, .inl (cI, 6, .inl told_house)), (oX9 a_S (.ref a_S_cells) (.ref a_told) (.ref a_laws)), (a_S_cells, .inl (cI, 69, .inl S_cells))] H locs → lv_has ls 5 [(0, .ref a_S), (1, .int v1), (2, .int v2), (3, .int v3), (4, .int v4)] → W p l e rm_X9_pairMost s m args below meth c H locs 0 0 (MQ below (QcI D A r0 [(oX5 a_told (.int told_gloves) (.int told_matters) (.int told_pride) (.int told_coins) (.ref a_told_house) (.ref a_told_free) (.ref a_told_stuffed) (.ref a_told_after) (.ref a_told_weight) (.ref a_told_need)), (a_told_house, .inl (cI, 6, .inl told_house)), (oX9 a_S (.ref a_S_cells) (.ref a_told) (.ref a_laws)), (a_S_cells, .inl (cI, 69, .inl S_cells))]) args s 0 0 A) (F0 m 20 ls [])) (v1 : Int32) (v3 : Int32) (v4 : Int32) {H : Heap} {locs : List Loc} {ls : Array Slot} (hf : b_X9_pairMost_75 told_gloves told_house S_cells k4 k20 v1 v3 v4 = some r0) (hw : Wo D A s [(oX5 a_told (.int told_gloves) (.int told_matters) (.int told_pride) (.int told_coins) (.ref a_told_house) (.ref a_told_free) (.ref a_told_stuffed) (.ref a_told_after) (.ref a_told_weight) (.ref a_told_need)), (a_told_house, .inl (cI, 6, .inl told_house)), (oX9 a_S (.ref a_S_cells) (.ref a_told) (.ref a_laws)), (a_S_cells, .inl (cI, 69, .inl S_cells))] H locs) (hl : lv_has ls 5 [(0, .ref a_S), (1, .int v1), (3, .int v3), (4, .int v4)]) : W p l e rm_X9_pairMost s m args below meth c H locs 0 0 (MQ below (QcI D A r0 [(oX5 a_told (.int told_gloves) (.int told_matters) (.int told_pride) (.int told_coins) (.ref a_told_house) (.ref a_told_free) (.ref a_told_stuffed) (.ref a_told_after) (.ref a_told_weight) (.ref a_told_need)), (a_told_house, .inl (cI, 6, .inl told_house)), (oX9 a_S (.ref a_S_cells) (.ref a_told) (.ref a_laws)), (a_S_cells, .inl (cI, 69, .inl S_cells))]) args s 0 0 A) (F0 m 75 ls []) := by
  obtain ⟨hx, hb, hml, hown, hts, hr, hlk⟩ := id C
  obtain ⟨hK, hX, hA⟩ := id K
  unfold b_X9_pairMost_75 at hf
  refine lv_bipush (v := (10 : Int32)) hx hb dX9_pairMost_75 (by decide) ?_
  refine lv_iload_n hx hb dX9_pairMost_77 rfl (lv_at hl 2 rfl) ?_
  refine lv_imul hx hb dX9_pairMost_78 ?_
  refine lv_iload hx hb dX9_pairMost_79 (lv_at hl 3 rfl) ?_
  refine lv_iadd hx hb dX9_pairMost_81 ?_
  obtain ⟨v2_1, e_v2_1, hf⟩ := bnd_some hf
  refine lv_nmi e_v2_1 ?_
  refine lv_istore_n (lv' := [(2, .int v2_1), (0, .ref a_S), (1, .int v1), (3, .int v3), (4, .int v4)]) hx hb dX9_pairMost_82 rfl hl (by decide) rfl (fun ls hl => ?_)
  exact q_X9_pairMost_83 C K a_told a_told_house a_told_free a_told_stuffed a_told_after a_told_weight a_told_need a_S a_S_cells a_laws told_gloves told_matters told_pride told_coins told_house S_cells r0 k4 hk4 k20 hk20 v1 v2_1 v3 v4 hf hw (lv_sub hl [1, 2, 0, 3, 4] rfl)
set_option maxHeartbeats 4000000 in
set_option maxRecDepth 100000 in
theorem q_X9_pairMost_20 {p : Program} {l : Launch} {e : Env} {s : State} {m : MethodId} {args : Array Value} {below : List Frame} {meth : Method} {c : Code} {sx : List sx_T} {D : va_G} {cI cZ cO : ClassId} {A : Nat → Prop} (C : Cx p s m args meth c RX9 wsX9_pairMost cX9_pairMost 5 (some .int)) (K : Kx sx D (tyL cI cZ cO) A s) (a_told : Nat) (a_told_house : Nat) (a_told_free : Nat) (a_told_stuffed : Nat) (a_told_after : Nat) (a_told_weight : Nat) (a_told_need : Nat) (a_S : Nat) (a_S_cells : Nat) (a_laws : Nat) (told_gloves : Int32) (told_matters : Int32) (told_pride : Int32) (told_coins : Int32) (told_house : Nat → Int32) (S_cells : Nat → Int32) (r0 : Int32)   (k4 : Int32 → Int32 → Int32 → Option (Int32)) (hk4 : ∀ (v1 : Int32) (v2 : Int32) (v3 : Int32) (H : Heap) (locs : List Loc) (ls : Array Slot), k4 v1 v2 v3 = some r0 → Wo D A s [(oX5 a_told (.int told_gloves) (.int told_matters) (.int told_pride) (.int told_coins) (.ref a_told_house) (.ref a_told_free) (.ref a_told_stuffed) (.ref a_told_after) (.ref a_told_weight) (.ref a_told_need)), (a_told_house, .inl (cI, 6, .inl told_house)), (oX9 a_S (.ref a_S_cells) (.ref a_told) (.ref a_laws)), (a_S_cells, .inl (cI, 69, .inl S_cells))] H locs → lv_has ls 5 [(0, .ref a_S), (1, .int v1), (2, .int v2), (3, .int v3)] → W p l e rm_X9_pairMost s m args below meth c H locs 0 0 (MQ below (QcI D A r0 [(oX5 a_told (.int told_gloves) (.int told_matters) (.int told_pride) (.int told_coins) (.ref a_told_house) (.ref a_told_free) (.ref a_told_stuffed) (.ref a_told_after) (.ref a_told_weight) (.ref a_told_need)), (a_told_house, .inl (cI, 6, .inl told_house)), (oX9 a_S (.ref a_S_cells) (.ref a_told) (.ref a_laws)), (a_S_cells, .inl (cI, 69, .inl S_cells))]) args s 0 0 A) (F0 m 4 ls [])) (k20 : Int32 → Int32 → Int32 → Int32 → Option (Int32)) (hk20 : ∀ (v1 : Int32) (v2 : Int32) (v3 : Int32) (v4 : Int32) (H : Heap) (locs : List Loc) (ls : Array Slot), k20 v1 v2 v3 v4 = some r0 → Wo D A s [(oX5 a_told (.int told_gloves) (.int told_matters) (.int told_pride) (.int told_coins) (.ref a_told_house) (.ref a_told_free) (.ref a_told_stuffed) (.ref a_told_after) (.ref a_told_weight) (.ref a_told_need)), (a_told_house, .inl (cI, 6, .inl told_house)), (oX9 a_S (.ref a_S_cells) (.ref a_told) (.ref a_laws)), (a_S_cells, .inl (cI, 69, .inl S_cells))] H locs → lv_has ls 5 [(0, .ref a_S), (1, .int v1), (2, .int v2), (3, .int v3), (4, .int v4)] → W p l e rm_X9_pairMost s m args below meth c H locs 0 0 (MQ below (QcI D A r0 [(oX5 a_told (.int told_gloves) (.int told_matters) (.int told_pride) (.int told_coins) (.ref a_told_house) (.ref a_told_free) (.ref a_told_stuffed) (.ref a_told_after) (.ref a_told_weight) (.ref a_told_need)), (a_told_house, .inl (cI, 6, .inl told_house)), (oX9 a_S (.ref a_S_cells) (.ref a_told) (.ref a_laws)), (a_S_cells, .inl (cI, 69, .inl S_cells))]) args s 0 0 A) (F0 m 20 ls [])) (v1 : Int32) (v2 : Int32) (v3 : Int32) (v4 : Int32) {H : Heap} {locs : List Loc} {ls : Array Slot} (hf : b_X9_pairMost_20 told_gloves told_house S_cells k4 k20 v1 v2 v3 v4 = some r0) (hw : Wo D A s [(oX5 a_told (.int told_gloves) (.int told_matters) (.int told_pride) (.int told_coins) (.ref a_told_house) (.ref a_told_free) (.ref a_told_stuffed) (.ref a_told_after) (.ref a_told_weight) (.ref a_told_need)), (a_told_house, .inl (cI, 6, .inl told_house)), (oX9 a_S (.ref a_S_cells) (.ref a_told) (.ref a_laws)), (a_S_cells, .inl (cI, 69, .inl S_cells))] H locs) (hl : lv_has ls 5 [(0, .ref a_S), (1, .int v1), (2, .int v2), (3, .int v3), (4, .int v4)]) : W p l e rm_X9_pairMost s m args below meth c H locs 0 0 (MQ below (QcI D A r0 [(oX5 a_told (.int told_gloves) (.int told_matters) (.int told_pride) (.int told_coins) (.ref a_told_house) (.ref a_told_free) (.ref a_told_stuffed) (.ref a_told_after) (.ref a_told_weight) (.ref a_told_need)), (a_told_house, .inl (cI, 6, .inl told_house)), (oX9 a_S (.ref a_S_cells) (.ref a_told) (.ref a_laws)), (a_S_cells, .inl (cI, 69, .inl S_cells))]) args s 0 0 A) (F0 m 20 ls []) := by
  obtain ⟨hx, hb, hml, hown, hts, hr, hlk⟩ := id C
  obtain ⟨hK, hX, hA⟩ := id K
  unfold b_X9_pairMost_20 at hf
  refine lv_iload hx hb dX9_pairMost_20 (lv_at hl 4 rfl) ?_
  refine lv_aload_n hx hb dX9_pairMost_22 rfl (lv_at hl 0 rfl) ?_
  refine va_get (ci := 9) (v := .ref a_told) (C := RX9) (T := TX9) (N := 3) hx hb hts in_X9_pairMost_X9 hown hK hw.1 2 rfl rfl 1 (by decide) (hts _ lk_X9_pairMost_0) (fun _ h9 => h9) rfl dX9_pairMost_23 ?_
  refine va_get (ci := 5) (v := .int told_gloves) (C := RX5) (T := TX5) (N := 10) hx hb hts in_X9_pairMost_X5 hown hK hw.1 0 rfl rfl 0 (by decide) (hts _ lk_X9_pairMost_1) (fun _ h9 => h9) rfl dX9_pairMost_26 ?_
  refine lv_icmp_ge (tgt := 89) hx hb dX9_pairMost_29 (by decide) (fun hc => ?_) (fun hc => ?_)
  · have hf := (if_pos hc).symm.trans hf
    obtain ⟨v3_1, e_v3_1, hf⟩ := bnd_some hf
    refine lv_iinc (v := v3_1) (lv' := [(3, .int v3_1), (0, .ref a_S), (1, .int v1), (2, .int v2), (4, .int v4)]) hx hb dX9_pairMost_89 hl (k := 3) rfl (by rw [e_v3_1]; rfl) (by decide) rfl (fun ls hl => ?_)
    refine lv_goto (tgt := 4) hx hb dX9_pairMost_92 (by decide) ?_
    exact hk4 v1 v2 v3_1 _ _ _ hf hw (lv_sub hl [1, 2, 3, 0] rfl)
  · have hf := (if_neg hc).symm.trans hf
    refine lv_aload_n hx hb dX9_pairMost_32 rfl (lv_at hl 0 rfl) ?_
    refine va_get (ci := 9) (v := .ref a_told) (C := RX9) (T := TX9) (N := 3) hx hb hts in_X9_pairMost_X9 hown hK hw.1 2 rfl rfl 1 (by decide) (hts _ lk_X9_pairMost_0) (fun _ h9 => h9) rfl dX9_pairMost_33 ?_
    refine lv_iload_n hx hb dX9_pairMost_36 rfl (lv_at hl 3 rfl) ?_
    refine lv_iload hx hb dX9_pairMost_37 (lv_at hl 4 rfl) ?_
    obtain ⟨r_2, hg_3, hf⟩ := ob1_some hf
    refine cl_ViA (As := [.int v3, .int v4]) (rest := []) C K hw (k_X5_unlike a_told a_told_house a_told_free a_told_stuffed a_told_after a_told_weight a_told_need told_gloves told_matters told_pride told_coins told_house r_2 v3 v4 hg_3) [0, 1] rfl (by decide) rfl rfl (ci := 5) (j := 0) rfl rfl (cwV 2 hts gX9_pairMost_X5_unlike rfl rfl rfl (by decide +kernel) ⟨Nat.le_of_ble_eq_true rfl, Nat.le_of_ble_eq_true rfl⟩) rfl hl rfl (Nat.le_of_ble_eq_true rfl) dX9_pairMost_39 ⟨Nat.zero_le _, Nat.zero_le _⟩ (fun H locs hw => ?_)
    have hw : Wo D A s [(oX5 a_told (.int told_gloves) (.int told_matters) (.int told_pride) (.int told_coins) (.ref a_told_house) (.ref a_told_free) (.ref a_told_stuffed) (.ref a_told_after) (.ref a_told_weight) (.ref a_told_need)), (a_told_house, .inl (cI, 6, .inl told_house)), (oX9 a_S (.ref a_S_cells) (.ref a_told) (.ref a_laws)), (a_S_cells, .inl (cI, 69, .inl S_cells))] H locs := hw
    refine lv_if_eq (tgt := 83) hx hb dX9_pairMost_42 (by decide) (fun hc => ?_) (fun hc => ?_)
    · have hf := (if_pos hc).symm.trans hf
      exact q_X9_pairMost_83 C K a_told a_told_house a_told_free a_told_stuffed a_told_after a_told_weight a_told_need a_S a_S_cells a_laws told_gloves told_matters told_pride told_coins told_house S_cells r0 k4 hk4 k20 hk20 v1 v2 v3 v4 hf hw (lv_sub hl [0, 1, 2, 3, 4] rfl)
    · have hf := (if_neg hc).symm.trans hf
      refine lv_iload_n hx hb dX9_pairMost_45 rfl (lv_at hl 2 rfl) ?_
      refine lv_iconst (v := (-1 : Int32)) hx hb dX9_pairMost_46 (by decide) ?_
      refine lv_icmp_eq (tgt := 75) hx hb dX9_pairMost_47 (by decide) (fun hc => ?_) (fun hc => ?_)
      · have hf := (if_pos hc).symm.trans hf
        exact q_X9_pairMost_75 C K a_told a_told_house a_told_free a_told_stuffed a_told_after a_told_weight a_told_need a_S a_S_cells a_laws told_gloves told_matters told_pride told_coins told_house S_cells r0 k4 hk4 k20 hk20 v1 v3 v4 hf hw (lv_sub hl [0, 1, 3, 4] rfl)
      · have hf := (if_neg hc).symm.trans hf
        refine lv_iload_n hx hb dX9_pairMost_50 rfl (lv_at hl 1 rfl) ?_
        refine lv_aload_n hx hb dX9_pairMost_51 rfl (lv_at hl 0 rfl) ?_
        refine lv_iload_n hx hb dX9_pairMost_52 rfl (lv_at hl 3 rfl) ?_
        refine lv_iload hx hb dX9_pairMost_53 (lv_at hl 4 rfl) ?_
        obtain ⟨r_4, hg_5, hf⟩ := ob1_some hf
        refine cl_ViA (As := [.int v3, .int v4]) (rest := [.int v1]) C K hw (k_X9_warmthOf a_S a_S_cells a_told a_laws S_cells r_4 v3 v4 hg_5) [2, 3] rfl (by decide) rfl rfl (ci := 9) (j := 2) rfl rfl (cwV 2 hts gX9_pairMost_X9_warmthOf rfl rfl rfl (by decide +kernel) ⟨Nat.le_of_ble_eq_true rfl, Nat.le_of_ble_eq_true rfl⟩) rfl hl rfl (Nat.le_of_ble_eq_true rfl) dX9_pairMost_55 ⟨Nat.zero_le _, Nat.zero_le _⟩ (fun H locs hw => ?_)
        have hw : Wo D A s [(oX5 a_told (.int told_gloves) (.int told_matters) (.int told_pride) (.int told_coins) (.ref a_told_house) (.ref a_told_free) (.ref a_told_stuffed) (.ref a_told_after) (.ref a_told_weight) (.ref a_told_need)), (a_told_house, .inl (cI, 6, .inl told_house)), (oX9 a_S (.ref a_S_cells) (.ref a_told) (.ref a_laws)), (a_S_cells, .inl (cI, 69, .inl S_cells))] H locs := hw
        refine lv_aload_n hx hb dX9_pairMost_58 rfl (lv_at hl 0 rfl) ?_
        refine lv_iload_n hx hb dX9_pairMost_59 rfl (lv_at hl 2 rfl) ?_
        refine lv_bipush (v := (10 : Int32)) hx hb dX9_pairMost_60 (by decide) ?_
        refine lv_idiv hx hb dX9_pairMost_62 (by decide) ?_
        refine lv_iload_n hx hb dX9_pairMost_63 rfl (lv_at hl 2 rfl) ?_
        refine lv_bipush (v := (10 : Int32)) hx hb dX9_pairMost_64 (by decide) ?_
        refine lv_irem hx hb dX9_pairMost_66 (by decide) ?_
        obtain ⟨n_6, e_n_6, hf⟩ := bnd_some hf
        refine lv_nmi e_n_6 ?_
        obtain ⟨r_7, hg_8, hf⟩ := ob1_some hf
        refine cl_ViA (As := [.int (v2 / (10 : Int32)), .int n_6]) (rest := [.int r_4, .int v1]) C K hw (k_X9_warmthOf a_S a_S_cells a_told a_laws S_cells r_7 (v2 / (10 : Int32)) n_6 hg_8) [2, 3] rfl (by decide) rfl rfl (ci := 9) (j := 2) rfl rfl (cwV 2 hts gX9_pairMost_X9_warmthOf rfl rfl rfl (by decide +kernel) ⟨Nat.le_of_ble_eq_true rfl, Nat.le_of_ble_eq_true rfl⟩) rfl hl rfl (Nat.le_of_ble_eq_true rfl) dX9_pairMost_67 ⟨Nat.zero_le _, Nat.zero_le _⟩ (fun H locs hw => ?_)
        have hw : Wo D A s [(oX5 a_told (.int told_gloves) (.int told_matters) (.int told_pride) (.int told_coins) (.ref a_told_house) (.ref a_told_free) (.ref a_told_stuffed) (.ref a_told_after) (.ref a_told_weight) (.ref a_told_need)), (a_told_house, .inl (cI, 6, .inl told_house)), (oX9 a_S (.ref a_S_cells) (.ref a_told) (.ref a_laws)), (a_S_cells, .inl (cI, 69, .inl S_cells))] H locs := hw
        refine lv_isub hx hb dX9_pairMost_70 ?_
        refine lv_imul hx hb dX9_pairMost_71 ?_
        refine lv_if_le (tgt := 83) hx hb dX9_pairMost_72 (by decide) (fun hc => ?_) (fun hc => ?_)
        · have hf := (if_pos hc).symm.trans hf
          exact q_X9_pairMost_83 C K a_told a_told_house a_told_free a_told_stuffed a_told_after a_told_weight a_told_need a_S a_S_cells a_laws told_gloves told_matters told_pride told_coins told_house S_cells r0 k4 hk4 k20 hk20 v1 v2 v3 v4 hf hw (lv_sub hl [0, 1, 2, 3, 4] rfl)
        · have hf := (if_neg hc).symm.trans hf
          exact q_X9_pairMost_75 C K a_told a_told_house a_told_free a_told_stuffed a_told_after a_told_weight a_told_need a_S a_S_cells a_laws told_gloves told_matters told_pride told_coins told_house S_cells r0 k4 hk4 k20 hk20 v1 v3 v4 hf hw (lv_sub hl [0, 1, 3, 4] rfl)
theorem qf_X9_pairMost_20 {p : Program} {l : Launch} {e : Env} {s : State} {m : MethodId} {args : Array Value} {below : List Frame} {meth : Method} {c : Code} {sx : List sx_T} {D : va_G} {cI cZ cO : ClassId} {A : Nat → Prop} (C : Cx p s m args meth c RX9 wsX9_pairMost cX9_pairMost 5 (some .int)) (K : Kx sx D (tyL cI cZ cO) A s) (a_told : Nat) (a_told_house : Nat) (a_told_free : Nat) (a_told_stuffed : Nat) (a_told_after : Nat) (a_told_weight : Nat) (a_told_need : Nat) (a_S : Nat) (a_S_cells : Nat) (a_laws : Nat) (told_gloves : Int32) (told_matters : Int32) (told_pride : Int32) (told_coins : Int32) (told_house : Nat → Int32) (S_cells : Nat → Int32) (r0 : Int32)   (k4 : Int32 → Int32 → Int32 → Option (Int32)) (hk4 : ∀ (v1 : Int32) (v2 : Int32) (v3 : Int32) (H : Heap) (locs : List Loc) (ls : Array Slot), k4 v1 v2 v3 = some r0 → Wo D A s [(oX5 a_told (.int told_gloves) (.int told_matters) (.int told_pride) (.int told_coins) (.ref a_told_house) (.ref a_told_free) (.ref a_told_stuffed) (.ref a_told_after) (.ref a_told_weight) (.ref a_told_need)), (a_told_house, .inl (cI, 6, .inl told_house)), (oX9 a_S (.ref a_S_cells) (.ref a_told) (.ref a_laws)), (a_S_cells, .inl (cI, 69, .inl S_cells))] H locs → lv_has ls 5 [(0, .ref a_S), (1, .int v1), (2, .int v2), (3, .int v3)] → W p l e rm_X9_pairMost s m args below meth c H locs 0 0 (MQ below (QcI D A r0 [(oX5 a_told (.int told_gloves) (.int told_matters) (.int told_pride) (.int told_coins) (.ref a_told_house) (.ref a_told_free) (.ref a_told_stuffed) (.ref a_told_after) (.ref a_told_weight) (.ref a_told_need)), (a_told_house, .inl (cI, 6, .inl told_house)), (oX9 a_S (.ref a_S_cells) (.ref a_told) (.ref a_laws)), (a_S_cells, .inl (cI, 69, .inl S_cells))]) args s 0 0 A) (F0 m 4 ls [])) (n : Nat) : ∀ (v1 : Int32) (v2 : Int32) (v3 : Int32) (v4 : Int32) (H : Heap) (locs : List Loc) (ls : Array Slot), f_X9_pairMost_20 told_gloves told_house S_cells k4 n v1 v2 v3 v4 = some r0 → Wo D A s [(oX5 a_told (.int told_gloves) (.int told_matters) (.int told_pride) (.int told_coins) (.ref a_told_house) (.ref a_told_free) (.ref a_told_stuffed) (.ref a_told_after) (.ref a_told_weight) (.ref a_told_need)), (a_told_house, .inl (cI, 6, .inl told_house)), (oX9 a_S (.ref a_S_cells) (.ref a_told) (.ref a_laws)), (a_S_cells, .inl (cI, 69, .inl S_cells))] H locs → lv_has ls 5 [(0, .ref a_S), (1, .int v1), (2, .int v2), (3, .int v3), (4, .int v4)] → W p l e rm_X9_pairMost s m args below meth c H locs 0 0 (MQ below (QcI D A r0 [(oX5 a_told (.int told_gloves) (.int told_matters) (.int told_pride) (.int told_coins) (.ref a_told_house) (.ref a_told_free) (.ref a_told_stuffed) (.ref a_told_after) (.ref a_told_weight) (.ref a_told_need)), (a_told_house, .inl (cI, 6, .inl told_house)), (oX9 a_S (.ref a_S_cells) (.ref a_told) (.ref a_laws)), (a_S_cells, .inl (cI, 69, .inl S_cells))]) args s 0 0 A) (F0 m 20 ls []) := by
  induction n with
  | zero =>
    intro v1 v2 v3 v4 H locs ls hf
    have h9 : (none : Option (Int32)) = some r0 := hf
    cases h9
  | succ n ih =>
    intro v1 v2 v3 v4 H locs ls hf hw hl
    exact q_X9_pairMost_20 C K a_told a_told_house a_told_free a_told_stuffed a_told_after a_told_weight a_told_need a_S a_S_cells a_laws told_gloves told_matters told_pride told_coins told_house S_cells r0 k4 hk4 (f_X9_pairMost_20 told_gloves told_house S_cells k4 n) ih v1 v2 v3 v4 hf hw hl
set_option maxHeartbeats 4000000 in
set_option maxRecDepth 100000 in
theorem q_X9_pairMost_4 {p : Program} {l : Launch} {e : Env} {s : State} {m : MethodId} {args : Array Value} {below : List Frame} {meth : Method} {c : Code} {sx : List sx_T} {D : va_G} {cI cZ cO : ClassId} {A : Nat → Prop} (C : Cx p s m args meth c RX9 wsX9_pairMost cX9_pairMost 5 (some .int)) (K : Kx sx D (tyL cI cZ cO) A s) (a_told : Nat) (a_told_house : Nat) (a_told_free : Nat) (a_told_stuffed : Nat) (a_told_after : Nat) (a_told_weight : Nat) (a_told_need : Nat) (a_S : Nat) (a_S_cells : Nat) (a_laws : Nat) (told_gloves : Int32) (told_matters : Int32) (told_pride : Int32) (told_coins : Int32) (told_house : Nat → Int32) (S_cells : Nat → Int32) (r0 : Int32)   (k4 : Int32 → Int32 → Int32 → Option (Int32)) (hk4 : ∀ (v1 : Int32) (v2 : Int32) (v3 : Int32) (H : Heap) (locs : List Loc) (ls : Array Slot), k4 v1 v2 v3 = some r0 → Wo D A s [(oX5 a_told (.int told_gloves) (.int told_matters) (.int told_pride) (.int told_coins) (.ref a_told_house) (.ref a_told_free) (.ref a_told_stuffed) (.ref a_told_after) (.ref a_told_weight) (.ref a_told_need)), (a_told_house, .inl (cI, 6, .inl told_house)), (oX9 a_S (.ref a_S_cells) (.ref a_told) (.ref a_laws)), (a_S_cells, .inl (cI, 69, .inl S_cells))] H locs → lv_has ls 5 [(0, .ref a_S), (1, .int v1), (2, .int v2), (3, .int v3)] → W p l e rm_X9_pairMost s m args below meth c H locs 0 0 (MQ below (QcI D A r0 [(oX5 a_told (.int told_gloves) (.int told_matters) (.int told_pride) (.int told_coins) (.ref a_told_house) (.ref a_told_free) (.ref a_told_stuffed) (.ref a_told_after) (.ref a_told_weight) (.ref a_told_need)), (a_told_house, .inl (cI, 6, .inl told_house)), (oX9 a_S (.ref a_S_cells) (.ref a_told) (.ref a_laws)), (a_S_cells, .inl (cI, 69, .inl S_cells))]) args s 0 0 A) (F0 m 4 ls [])) (v1 : Int32) (v2 : Int32) (v3 : Int32) {H : Heap} {locs : List Loc} {ls : Array Slot} (hf : b_X9_pairMost_4 told_gloves told_house S_cells k4 v1 v2 v3 = some r0) (hw : Wo D A s [(oX5 a_told (.int told_gloves) (.int told_matters) (.int told_pride) (.int told_coins) (.ref a_told_house) (.ref a_told_free) (.ref a_told_stuffed) (.ref a_told_after) (.ref a_told_weight) (.ref a_told_need)), (a_told_house, .inl (cI, 6, .inl told_house)), (oX9 a_S (.ref a_S_cells) (.ref a_told) (.ref a_laws)), (a_S_cells, .inl (cI, 69, .inl S_cells))] H locs) (hl : lv_has ls 5 [(0, .ref a_S), (1, .int v1), (2, .int v2), (3, .int v3)]) : W p l e rm_X9_pairMost s m args below meth c H locs 0 0 (MQ below (QcI D A r0 [(oX5 a_told (.int told_gloves) (.int told_matters) (.int told_pride) (.int told_coins) (.ref a_told_house) (.ref a_told_free) (.ref a_told_stuffed) (.ref a_told_after) (.ref a_told_weight) (.ref a_told_need)), (a_told_house, .inl (cI, 6, .inl told_house)), (oX9 a_S (.ref a_S_cells) (.ref a_told) (.ref a_laws)), (a_S_cells, .inl (cI, 69, .inl S_cells))]) args s 0 0 A) (F0 m 4 ls []) := by
  obtain ⟨hx, hb, hml, hown, hts, hr, hlk⟩ := id C
  obtain ⟨hK, hX, hA⟩ := id K
  unfold b_X9_pairMost_4 at hf
  refine lv_iload_n hx hb dX9_pairMost_4 rfl (lv_at hl 3 rfl) ?_
  refine lv_aload_n hx hb dX9_pairMost_5 rfl (lv_at hl 0 rfl) ?_
  refine va_get (ci := 9) (v := .ref a_told) (C := RX9) (T := TX9) (N := 3) hx hb hts in_X9_pairMost_X9 hown hK hw.1 2 rfl rfl 1 (by decide) (hts _ lk_X9_pairMost_0) (fun _ h9 => h9) rfl dX9_pairMost_6 ?_
  refine va_get (ci := 5) (v := .int told_gloves) (C := RX5) (T := TX5) (N := 10) hx hb hts in_X9_pairMost_X5 hown hK hw.1 0 rfl rfl 0 (by decide) (hts _ lk_X9_pairMost_1) (fun _ h9 => h9) rfl dX9_pairMost_9 ?_
  refine lv_icmp_ge (tgt := 95) hx hb dX9_pairMost_12 (by decide) (fun hc => ?_) (fun hc => ?_)
  · have hf := (if_pos hc).symm.trans hf
    refine lv_iload_n hx hb dX9_pairMost_95 rfl (lv_at hl 2 rfl) ?_
    clear hk4; cases hf
    exact retI C hw dX9_pairMost_96 rfl
  · have hf := (if_neg hc).symm.trans hf
    refine lv_iload_n hx hb dX9_pairMost_15 rfl (lv_at hl 3 rfl) ?_
    refine lv_iconst (v := (1 : Int32)) hx hb dX9_pairMost_16 (by decide) ?_
    refine lv_iadd hx hb dX9_pairMost_17 ?_
    obtain ⟨v4_1, e_v4_1, hf⟩ := bnd_some hf
    refine lv_nmi e_v4_1 ?_
    refine lv_istore (lv' := [(4, .int v4_1), (0, .ref a_S), (1, .int v1), (2, .int v2), (3, .int v3)]) hx hb dX9_pairMost_18 hl (by decide) rfl (fun ls hl => ?_)
    exact qf_X9_pairMost_20 C K a_told a_told_house a_told_free a_told_stuffed a_told_after a_told_weight a_told_need a_S a_S_cells a_laws told_gloves told_matters told_pride told_coins told_house S_cells r0 k4 hk4 fu v1 v2 v3 v4_1 _ _ _ hf hw (lv_sub hl [1, 2, 3, 4, 0] rfl)
theorem qf_X9_pairMost_4 {p : Program} {l : Launch} {e : Env} {s : State} {m : MethodId} {args : Array Value} {below : List Frame} {meth : Method} {c : Code} {sx : List sx_T} {D : va_G} {cI cZ cO : ClassId} {A : Nat → Prop} (C : Cx p s m args meth c RX9 wsX9_pairMost cX9_pairMost 5 (some .int)) (K : Kx sx D (tyL cI cZ cO) A s) (a_told : Nat) (a_told_house : Nat) (a_told_free : Nat) (a_told_stuffed : Nat) (a_told_after : Nat) (a_told_weight : Nat) (a_told_need : Nat) (a_S : Nat) (a_S_cells : Nat) (a_laws : Nat) (told_gloves : Int32) (told_matters : Int32) (told_pride : Int32) (told_coins : Int32) (told_house : Nat → Int32) (S_cells : Nat → Int32) (r0 : Int32)    (n : Nat) : ∀ (v1 : Int32) (v2 : Int32) (v3 : Int32) (H : Heap) (locs : List Loc) (ls : Array Slot), f_X9_pairMost_4 told_gloves told_house S_cells  n v1 v2 v3 = some r0 → Wo D A s [(oX5 a_told (.int told_gloves) (.int told_matters) (.int told_pride) (.int told_coins) (.ref a_told_house) (.ref a_told_free) (.ref a_told_stuffed) (.ref a_told_after) (.ref a_told_weight) (.ref a_told_need)), (a_told_house, .inl (cI, 6, .inl told_house)), (oX9 a_S (.ref a_S_cells) (.ref a_told) (.ref a_laws)), (a_S_cells, .inl (cI, 69, .inl S_cells))] H locs → lv_has ls 5 [(0, .ref a_S), (1, .int v1), (2, .int v2), (3, .int v3)] → W p l e rm_X9_pairMost s m args below meth c H locs 0 0 (MQ below (QcI D A r0 [(oX5 a_told (.int told_gloves) (.int told_matters) (.int told_pride) (.int told_coins) (.ref a_told_house) (.ref a_told_free) (.ref a_told_stuffed) (.ref a_told_after) (.ref a_told_weight) (.ref a_told_need)), (a_told_house, .inl (cI, 6, .inl told_house)), (oX9 a_S (.ref a_S_cells) (.ref a_told) (.ref a_laws)), (a_S_cells, .inl (cI, 69, .inl S_cells))]) args s 0 0 A) (F0 m 4 ls []) := by
  induction n with
  | zero =>
    intro v1 v2 v3 H locs ls hf
    have h9 : (none : Option (Int32)) = some r0 := hf
    cases h9
  | succ n ih =>
    intro v1 v2 v3 H locs ls hf hw hl
    exact q_X9_pairMost_4 C K a_told a_told_house a_told_free a_told_stuffed a_told_after a_told_weight a_told_need a_S a_S_cells a_laws told_gloves told_matters told_pride told_coins told_house S_cells r0  (f_X9_pairMost_4 told_gloves told_house S_cells  n) ih v1 v2 v3 hf hw hl
set_option maxHeartbeats 4000000 in
set_option maxRecDepth 100000 in
theorem q_X9_pairMost_0 {p : Program} {l : Launch} {e : Env} {s : State} {m : MethodId} {args : Array Value} {below : List Frame} {meth : Method} {c : Code} {sx : List sx_T} {D : va_G} {cI cZ cO : ClassId} {A : Nat → Prop} (C : Cx p s m args meth c RX9 wsX9_pairMost cX9_pairMost 5 (some .int)) (K : Kx sx D (tyL cI cZ cO) A s) (a_told : Nat) (a_told_house : Nat) (a_told_free : Nat) (a_told_stuffed : Nat) (a_told_after : Nat) (a_told_weight : Nat) (a_told_need : Nat) (a_S : Nat) (a_S_cells : Nat) (a_laws : Nat) (told_gloves : Int32) (told_matters : Int32) (told_pride : Int32) (told_coins : Int32) (told_house : Nat → Int32) (S_cells : Nat → Int32) (r0 : Int32)    (v1 : Int32) {H : Heap} {locs : List Loc} {ls : Array Slot} (hf : b_X9_pairMost_0 told_gloves told_house S_cells  v1 = some r0) (hw : Wo D A s [(oX5 a_told (.int told_gloves) (.int told_matters) (.int told_pride) (.int told_coins) (.ref a_told_house) (.ref a_told_free) (.ref a_told_stuffed) (.ref a_told_after) (.ref a_told_weight) (.ref a_told_need)), (a_told_house, .inl (cI, 6, .inl told_house)), (oX9 a_S (.ref a_S_cells) (.ref a_told) (.ref a_laws)), (a_S_cells, .inl (cI, 69, .inl S_cells))] H locs) (hl : lv_has ls 5 [(0, .ref a_S), (1, .int v1)]) : W p l e rm_X9_pairMost s m args below meth c H locs 0 0 (MQ below (QcI D A r0 [(oX5 a_told (.int told_gloves) (.int told_matters) (.int told_pride) (.int told_coins) (.ref a_told_house) (.ref a_told_free) (.ref a_told_stuffed) (.ref a_told_after) (.ref a_told_weight) (.ref a_told_need)), (a_told_house, .inl (cI, 6, .inl told_house)), (oX9 a_S (.ref a_S_cells) (.ref a_told) (.ref a_laws)), (a_S_cells, .inl (cI, 69, .inl S_cells))]) args s 0 0 A) (F0 m 0 ls []) := by
  obtain ⟨hx, hb, hml, hown, hts, hr, hlk⟩ := id C
  obtain ⟨hK, hX, hA⟩ := id K
  unfold b_X9_pairMost_0 at hf
  refine lv_iconst (v := (-1 : Int32)) hx hb dX9_pairMost_0 (by decide) ?_
  refine lv_istore_n (lv' := [(2, .int (-1 : Int32)), (0, .ref a_S), (1, .int v1)]) hx hb dX9_pairMost_1 rfl hl (by decide) rfl (fun ls hl => ?_)
  refine lv_iconst (v := (0 : Int32)) hx hb dX9_pairMost_2 (by decide) ?_
  refine lv_istore_n (lv' := [(3, .int (0 : Int32)), (2, .int (-1 : Int32)), (0, .ref a_S), (1, .int v1)]) hx hb dX9_pairMost_3 rfl hl (by decide) rfl (fun ls hl => ?_)
  exact qf_X9_pairMost_4 C K a_told a_told_house a_told_free a_told_stuffed a_told_after a_told_weight a_told_need a_S a_S_cells a_laws told_gloves told_matters told_pride told_coins told_house S_cells r0  fu v1 (-1 : Int32) (0 : Int32) _ _ _ hf hw (lv_sub hl [2, 3, 1, 0] rfl)
set_option maxHeartbeats 4000000 in
set_option maxRecDepth 100000 in
theorem k_X9_pairMost {l : Launch} {sx : List sx_T} {D : va_G} {cI cZ cO : ClassId} (a_told : Nat) (a_told_house : Nat) (a_told_free : Nat) (a_told_stuffed : Nat) (a_told_after : Nat) (a_told_weight : Nat) (a_told_need : Nat) (a_S : Nat) (a_S_cells : Nat) (a_laws : Nat) (told_gloves : Int32) (told_matters : Int32) (told_pride : Int32) (told_coins : Int32) (told_house : Nat → Int32) (S_cells : Nat → Int32) (r0 : Int32) (p1 : Int32) (hF : f_X9_pairMost told_gloves told_house S_cells p1 = some r0) : CtI l yX9_pairMost wsX9_pairMost rm_X9_pairMost sx D (tyL cI cZ cO) [.ref a_S, .int p1] [(oX5 a_told (.int told_gloves) (.int told_matters) (.int told_pride) (.int told_coins) (.ref a_told_house) (.ref a_told_free) (.ref a_told_stuffed) (.ref a_told_after) (.ref a_told_weight) (.ref a_told_need)), (a_told_house, .inl (cI, 6, .inl told_house)), (oX9 a_S (.ref a_S_cells) (.ref a_told) (.ref a_laws)), (a_S_cells, .inl (cI, 69, .inl S_cells))] r0 [(oX5 a_told (.int told_gloves) (.int told_matters) (.int told_pride) (.int told_coins) (.ref a_told_house) (.ref a_told_free) (.ref a_told_stuffed) (.ref a_told_after) (.ref a_told_weight) (.ref a_told_need)), (a_told_house, .inl (cI, 6, .inl told_house)), (oX9 a_S (.ref a_S_cells) (.ref a_told) (.ref a_laws)), (a_S_cells, .inl (cI, 69, .inl S_cells))] := by
  refine ctI_of (cc := cX9_pairMost) (ret := (some .int)) (maxL := 5) (by decide) rfl (Nat.le_of_ble_eq_true rfl) ?_
  intro p e s m below meth c A ls C K hw hl
  exact q_X9_pairMost_0 C K a_told a_told_house a_told_free a_told_stuffed a_told_after a_told_weight a_told_need a_S a_S_cells a_laws told_gloves told_matters told_pride told_coins told_house S_cells r0 p1 hF hw (lv_sub hl [0, 1] rfl)
abbrev rm_X9_warmestPair : Room := { frames := 3, cells := 0, slots := 0, locals := 67 }
set_option maxHeartbeats 4000000 in
set_option maxRecDepth 100000 in
theorem q_X9_warmestPair_0 {p : Program} {l : Launch} {e : Env} {s : State} {m : MethodId} {args : Array Value} {below : List Frame} {meth : Method} {c : Code} {sx : List sx_T} {D : va_G} {cI cZ cO : ClassId} {A : Nat → Prop} (C : Cx p s m args meth c RX9 wsX9_warmestPair cX9_warmestPair 1 (some .int)) (K : Kx sx D (tyL cI cZ cO) A s) (a_told : Nat) (a_told_house : Nat) (a_told_free : Nat) (a_told_stuffed : Nat) (a_told_after : Nat) (a_told_weight : Nat) (a_told_need : Nat) (a_S : Nat) (a_S_cells : Nat) (a_laws : Nat) (told_gloves : Int32) (told_matters : Int32) (told_pride : Int32) (told_coins : Int32) (told_house : Nat → Int32) (S_cells : Nat → Int32) (r0 : Int32)     {H : Heap} {locs : List Loc} {ls : Array Slot} (hf : b_X9_warmestPair_0 told_gloves told_house S_cells   = some r0) (hw : Wo D A s [(oX5 a_told (.int told_gloves) (.int told_matters) (.int told_pride) (.int told_coins) (.ref a_told_house) (.ref a_told_free) (.ref a_told_stuffed) (.ref a_told_after) (.ref a_told_weight) (.ref a_told_need)), (a_told_house, .inl (cI, 6, .inl told_house)), (oX9 a_S (.ref a_S_cells) (.ref a_told) (.ref a_laws)), (a_S_cells, .inl (cI, 69, .inl S_cells))] H locs) (hl : lv_has ls 1 [(0, .ref a_S)]) : W p l e rm_X9_warmestPair s m args below meth c H locs 0 0 (MQ below (QcI D A r0 [(oX5 a_told (.int told_gloves) (.int told_matters) (.int told_pride) (.int told_coins) (.ref a_told_house) (.ref a_told_free) (.ref a_told_stuffed) (.ref a_told_after) (.ref a_told_weight) (.ref a_told_need)), (a_told_house, .inl (cI, 6, .inl told_house)), (oX9 a_S (.ref a_S_cells) (.ref a_told) (.ref a_laws)), (a_S_cells, .inl (cI, 69, .inl S_cells))]) args s 0 0 A) (F0 m 0 ls []) := by
  obtain ⟨hx, hb, hml, hown, hts, hr, hlk⟩ := id C
  obtain ⟨hK, hX, hA⟩ := id K
  unfold b_X9_warmestPair_0 at hf
  refine lv_aload_n hx hb dX9_warmestPair_0 rfl (lv_at hl 0 rfl) ?_
  refine lv_iconst (v := (1 : Int32)) hx hb dX9_warmestPair_1 (by decide) ?_
  obtain ⟨r_1, hg_2, hf⟩ := ob1_some hf
  refine cl_ViA (As := [.int (1 : Int32)]) (rest := []) C K hw (k_X9_pairMost a_told a_told_house a_told_free a_told_stuffed a_told_after a_told_weight a_told_need a_S a_S_cells a_laws told_gloves told_matters told_pride told_coins told_house S_cells r_1 (1 : Int32) hg_2) [0, 1, 2, 3] rfl (by decide) rfl rfl (ci := 9) (j := 2) rfl rfl (cwV 1 hts gX9_warmestPair_X9_pairMost rfl rfl rfl (by decide +kernel) ⟨Nat.le_of_ble_eq_true rfl, Nat.le_of_ble_eq_true rfl⟩) rfl hl rfl (Nat.le_of_ble_eq_true rfl) dX9_warmestPair_2 ⟨Nat.zero_le _, Nat.zero_le _⟩ (fun H locs hw => ?_)
  have hw : Wo D A s [(oX5 a_told (.int told_gloves) (.int told_matters) (.int told_pride) (.int told_coins) (.ref a_told_house) (.ref a_told_free) (.ref a_told_stuffed) (.ref a_told_after) (.ref a_told_weight) (.ref a_told_need)), (a_told_house, .inl (cI, 6, .inl told_house)), (oX9 a_S (.ref a_S_cells) (.ref a_told) (.ref a_laws)), (a_S_cells, .inl (cI, 69, .inl S_cells))] H locs := hw
  cases hf
  exact retI C hw dX9_warmestPair_5 rfl
set_option maxHeartbeats 4000000 in
set_option maxRecDepth 100000 in
theorem k_X9_warmestPair {l : Launch} {sx : List sx_T} {D : va_G} {cI cZ cO : ClassId} (a_told : Nat) (a_told_house : Nat) (a_told_free : Nat) (a_told_stuffed : Nat) (a_told_after : Nat) (a_told_weight : Nat) (a_told_need : Nat) (a_S : Nat) (a_S_cells : Nat) (a_laws : Nat) (told_gloves : Int32) (told_matters : Int32) (told_pride : Int32) (told_coins : Int32) (told_house : Nat → Int32) (S_cells : Nat → Int32) (r0 : Int32) (hF : f_X9_warmestPair told_gloves told_house S_cells = some r0) : CtI l yX9_warmestPair wsX9_warmestPair rm_X9_warmestPair sx D (tyL cI cZ cO) [.ref a_S] [(oX5 a_told (.int told_gloves) (.int told_matters) (.int told_pride) (.int told_coins) (.ref a_told_house) (.ref a_told_free) (.ref a_told_stuffed) (.ref a_told_after) (.ref a_told_weight) (.ref a_told_need)), (a_told_house, .inl (cI, 6, .inl told_house)), (oX9 a_S (.ref a_S_cells) (.ref a_told) (.ref a_laws)), (a_S_cells, .inl (cI, 69, .inl S_cells))] r0 [(oX5 a_told (.int told_gloves) (.int told_matters) (.int told_pride) (.int told_coins) (.ref a_told_house) (.ref a_told_free) (.ref a_told_stuffed) (.ref a_told_after) (.ref a_told_weight) (.ref a_told_need)), (a_told_house, .inl (cI, 6, .inl told_house)), (oX9 a_S (.ref a_S_cells) (.ref a_told) (.ref a_laws)), (a_S_cells, .inl (cI, 69, .inl S_cells))] := by
  refine ctI_of (cc := cX9_warmestPair) (ret := (some .int)) (maxL := 1) (by decide) rfl (Nat.le_of_ble_eq_true rfl) ?_
  intro p e s m below meth c A ls C K hw hl
  exact q_X9_warmestPair_0 C K a_told a_told_house a_told_free a_told_stuffed a_told_after a_told_weight a_told_need a_S a_S_cells a_laws told_gloves told_matters told_pride told_coins told_house S_cells r0  hF hw (lv_sub hl [0] rfl)
abbrev rm_X9_coldestPair : Room := { frames := 3, cells := 0, slots := 0, locals := 67 }
set_option maxHeartbeats 4000000 in
set_option maxRecDepth 100000 in
theorem q_X9_coldestPair_0 {p : Program} {l : Launch} {e : Env} {s : State} {m : MethodId} {args : Array Value} {below : List Frame} {meth : Method} {c : Code} {sx : List sx_T} {D : va_G} {cI cZ cO : ClassId} {A : Nat → Prop} (C : Cx p s m args meth c RX9 wsX9_coldestPair cX9_coldestPair 1 (some .int)) (K : Kx sx D (tyL cI cZ cO) A s) (a_told : Nat) (a_told_house : Nat) (a_told_free : Nat) (a_told_stuffed : Nat) (a_told_after : Nat) (a_told_weight : Nat) (a_told_need : Nat) (a_S : Nat) (a_S_cells : Nat) (a_laws : Nat) (told_gloves : Int32) (told_matters : Int32) (told_pride : Int32) (told_coins : Int32) (told_house : Nat → Int32) (S_cells : Nat → Int32) (r0 : Int32)     {H : Heap} {locs : List Loc} {ls : Array Slot} (hf : b_X9_coldestPair_0 told_gloves told_house S_cells   = some r0) (hw : Wo D A s [(oX5 a_told (.int told_gloves) (.int told_matters) (.int told_pride) (.int told_coins) (.ref a_told_house) (.ref a_told_free) (.ref a_told_stuffed) (.ref a_told_after) (.ref a_told_weight) (.ref a_told_need)), (a_told_house, .inl (cI, 6, .inl told_house)), (oX9 a_S (.ref a_S_cells) (.ref a_told) (.ref a_laws)), (a_S_cells, .inl (cI, 69, .inl S_cells))] H locs) (hl : lv_has ls 1 [(0, .ref a_S)]) : W p l e rm_X9_coldestPair s m args below meth c H locs 0 0 (MQ below (QcI D A r0 [(oX5 a_told (.int told_gloves) (.int told_matters) (.int told_pride) (.int told_coins) (.ref a_told_house) (.ref a_told_free) (.ref a_told_stuffed) (.ref a_told_after) (.ref a_told_weight) (.ref a_told_need)), (a_told_house, .inl (cI, 6, .inl told_house)), (oX9 a_S (.ref a_S_cells) (.ref a_told) (.ref a_laws)), (a_S_cells, .inl (cI, 69, .inl S_cells))]) args s 0 0 A) (F0 m 0 ls []) := by
  obtain ⟨hx, hb, hml, hown, hts, hr, hlk⟩ := id C
  obtain ⟨hK, hX, hA⟩ := id K
  unfold b_X9_coldestPair_0 at hf
  refine lv_aload_n hx hb dX9_coldestPair_0 rfl (lv_at hl 0 rfl) ?_
  refine lv_iconst (v := (-1 : Int32)) hx hb dX9_coldestPair_1 (by decide) ?_
  obtain ⟨r_1, hg_2, hf⟩ := ob1_some hf
  refine cl_ViA (As := [.int (-1 : Int32)]) (rest := []) C K hw (k_X9_pairMost a_told a_told_house a_told_free a_told_stuffed a_told_after a_told_weight a_told_need a_S a_S_cells a_laws told_gloves told_matters told_pride told_coins told_house S_cells r_1 (-1 : Int32) hg_2) [0, 1, 2, 3] rfl (by decide) rfl rfl (ci := 9) (j := 2) rfl rfl (cwV 1 hts gX9_coldestPair_X9_pairMost rfl rfl rfl (by decide +kernel) ⟨Nat.le_of_ble_eq_true rfl, Nat.le_of_ble_eq_true rfl⟩) rfl hl rfl (Nat.le_of_ble_eq_true rfl) dX9_coldestPair_2 ⟨Nat.zero_le _, Nat.zero_le _⟩ (fun H locs hw => ?_)
  have hw : Wo D A s [(oX5 a_told (.int told_gloves) (.int told_matters) (.int told_pride) (.int told_coins) (.ref a_told_house) (.ref a_told_free) (.ref a_told_stuffed) (.ref a_told_after) (.ref a_told_weight) (.ref a_told_need)), (a_told_house, .inl (cI, 6, .inl told_house)), (oX9 a_S (.ref a_S_cells) (.ref a_told) (.ref a_laws)), (a_S_cells, .inl (cI, 69, .inl S_cells))] H locs := hw
  cases hf
  exact retI C hw dX9_coldestPair_5 rfl
set_option maxHeartbeats 4000000 in
set_option maxRecDepth 100000 in
theorem k_X9_coldestPair {l : Launch} {sx : List sx_T} {D : va_G} {cI cZ cO : ClassId} (a_told : Nat) (a_told_house : Nat) (a_told_free : Nat) (a_told_stuffed : Nat) (a_told_after : Nat) (a_told_weight : Nat) (a_told_need : Nat) (a_S : Nat) (a_S_cells : Nat) (a_laws : Nat) (told_gloves : Int32) (told_matters : Int32) (told_pride : Int32) (told_coins : Int32) (told_house : Nat → Int32) (S_cells : Nat → Int32) (r0 : Int32) (hF : f_X9_coldestPair told_gloves told_house S_cells = some r0) : CtI l yX9_coldestPair wsX9_coldestPair rm_X9_coldestPair sx D (tyL cI cZ cO) [.ref a_S] [(oX5 a_told (.int told_gloves) (.int told_matters) (.int told_pride) (.int told_coins) (.ref a_told_house) (.ref a_told_free) (.ref a_told_stuffed) (.ref a_told_after) (.ref a_told_weight) (.ref a_told_need)), (a_told_house, .inl (cI, 6, .inl told_house)), (oX9 a_S (.ref a_S_cells) (.ref a_told) (.ref a_laws)), (a_S_cells, .inl (cI, 69, .inl S_cells))] r0 [(oX5 a_told (.int told_gloves) (.int told_matters) (.int told_pride) (.int told_coins) (.ref a_told_house) (.ref a_told_free) (.ref a_told_stuffed) (.ref a_told_after) (.ref a_told_weight) (.ref a_told_need)), (a_told_house, .inl (cI, 6, .inl told_house)), (oX9 a_S (.ref a_S_cells) (.ref a_told) (.ref a_laws)), (a_S_cells, .inl (cI, 69, .inl S_cells))] := by
  refine ctI_of (cc := cX9_coldestPair) (ret := (some .int)) (maxL := 1) (by decide) rfl (Nat.le_of_ble_eq_true rfl) ?_
  intro p e s m below meth c A ls C K hw hl
  exact q_X9_coldestPair_0 C K a_told a_told_house a_told_free a_told_stuffed a_told_after a_told_weight a_told_need a_S a_S_cells a_laws told_gloves told_matters told_pride told_coins told_house S_cells r0  hF hw (lv_sub hl [0] rfl)
abbrev rm_X9_gloveMost : Room := { frames := 0, cells := 0, slots := 0, locals := 0 }
theorem in_X9_gloveMost_X9 : ∀ w ∈ u_ws RX9 TX9 3, w ∈ wsX9_gloveMost := fun w h => List.mem_cons_of_mem _ (bi_wsX90 w h)
theorem in_X9_gloveMost_X5 : ∀ w ∈ u_ws RX5 TX5 10, w ∈ wsX9_gloveMost := fun w h => List.mem_cons_of_mem _ (bi_wsX50 w h)
theorem lk_X9_gloveMost_0 : Cond.fieldLink RX9 15 "GloveHouses$State" "told" "LGloveHouses$Peace;" ∈ wsX9_gloveMost := List.mem_cons_of_mem _ (bi_wsL_law0_r5 _ (List.mem_of_getElem? (i := 12) rfl))
theorem lk_X9_gloveMost_1 : Cond.fieldLink RX9 102 "GloveHouses$Peace" "gloves" "I" ∈ wsX9_gloveMost := List.mem_cons_of_mem _ (bi_wsL_law0_r37 _ (List.mem_of_getElem? (i := 4) rfl))
theorem lk_X9_gloveMost_2 : Cond.fieldLink RX9 11 "GloveHouses$State" "cells" "[I" ∈ wsX9_gloveMost := List.mem_cons_of_mem _ (bi_wsL_law0_r5 _ (List.mem_of_getElem? (i := 11) rfl))
set_option maxHeartbeats 4000000 in
set_option maxRecDepth 100000 in
theorem q_X9_gloveMost_36 {p : Program} {l : Launch} {e : Env} {s : State} {m : MethodId} {args : Array Value} {below : List Frame} {meth : Method} {c : Code} {sx : List sx_T} {D : va_G} {cI cZ cO : ClassId} {A : Nat → Prop} (C : Cx p s m args meth c RX9 wsX9_gloveMost cX9_gloveMost 4 (some .int)) (K : Kx sx D (tyL cI cZ cO) A s) (a_told : Nat) (a_told_house : Nat) (a_told_free : Nat) (a_told_stuffed : Nat) (a_told_after : Nat) (a_told_weight : Nat) (a_told_need : Nat) (a_S : Nat) (a_S_cells : Nat) (a_laws : Nat) (told_gloves : Int32) (told_matters : Int32) (told_pride : Int32) (told_coins : Int32) (S_cells : Nat → Int32) (r0 : Int32)   (k4 : Int32 → Int32 → Int32 → Option (Int32)) (hk4 : ∀ (v1 : Int32) (v2 : Int32) (v3 : Int32) (H : Heap) (locs : List Loc) (ls : Array Slot), k4 v1 v2 v3 = some r0 → Wo D A s [(oX5 a_told (.int told_gloves) (.int told_matters) (.int told_pride) (.int told_coins) (.ref a_told_house) (.ref a_told_free) (.ref a_told_stuffed) (.ref a_told_after) (.ref a_told_weight) (.ref a_told_need)), (oX9 a_S (.ref a_S_cells) (.ref a_told) (.ref a_laws)), (a_S_cells, .inl (cI, 69, .inl S_cells))] H locs → lv_has ls 4 [(0, .ref a_S), (1, .int v1), (2, .int v2), (3, .int v3)] → W p l e rm_X9_gloveMost s m args below meth c H locs 0 0 (MQ below (QcI D A r0 [(oX5 a_told (.int told_gloves) (.int told_matters) (.int told_pride) (.int told_coins) (.ref a_told_house) (.ref a_told_free) (.ref a_told_stuffed) (.ref a_told_after) (.ref a_told_weight) (.ref a_told_need)), (oX9 a_S (.ref a_S_cells) (.ref a_told) (.ref a_laws)), (a_S_cells, .inl (cI, 69, .inl S_cells))]) args s 0 0 A) (F0 m 4 ls [])) (v1 : Int32) (v2 : Int32) (v3 : Int32) {H : Heap} {locs : List Loc} {ls : Array Slot} (hf : b_X9_gloveMost_36 told_gloves S_cells k4 v1 v2 v3 = some r0) (hw : Wo D A s [(oX5 a_told (.int told_gloves) (.int told_matters) (.int told_pride) (.int told_coins) (.ref a_told_house) (.ref a_told_free) (.ref a_told_stuffed) (.ref a_told_after) (.ref a_told_weight) (.ref a_told_need)), (oX9 a_S (.ref a_S_cells) (.ref a_told) (.ref a_laws)), (a_S_cells, .inl (cI, 69, .inl S_cells))] H locs) (hl : lv_has ls 4 [(0, .ref a_S), (1, .int v1), (2, .int v2), (3, .int v3)]) : W p l e rm_X9_gloveMost s m args below meth c H locs 0 0 (MQ below (QcI D A r0 [(oX5 a_told (.int told_gloves) (.int told_matters) (.int told_pride) (.int told_coins) (.ref a_told_house) (.ref a_told_free) (.ref a_told_stuffed) (.ref a_told_after) (.ref a_told_weight) (.ref a_told_need)), (oX9 a_S (.ref a_S_cells) (.ref a_told) (.ref a_laws)), (a_S_cells, .inl (cI, 69, .inl S_cells))]) args s 0 0 A) (F0 m 36 ls []) := by
  obtain ⟨hx, hb, hml, hown, hts, hr, hlk⟩ := id C
  obtain ⟨hK, hX, hA⟩ := id K
  unfold b_X9_gloveMost_36 at hf
  obtain ⟨v3_1, e_v3_1, hf⟩ := bnd_some hf
  refine lv_iinc (v := v3_1) (lv' := [(3, .int v3_1), (0, .ref a_S), (1, .int v1), (2, .int v2)]) hx hb dX9_gloveMost_36 hl (k := 3) rfl (by rw [e_v3_1]; rfl) (by decide) rfl (fun ls hl => ?_)
  refine lv_goto (tgt := 4) hx hb dX9_gloveMost_39 (by decide) ?_
  exact hk4 v1 v2 v3_1 _ _ _ hf hw (lv_sub hl [1, 2, 3, 0] rfl)
set_option maxHeartbeats 4000000 in
set_option maxRecDepth 100000 in
theorem q_X9_gloveMost_4 {p : Program} {l : Launch} {e : Env} {s : State} {m : MethodId} {args : Array Value} {below : List Frame} {meth : Method} {c : Code} {sx : List sx_T} {D : va_G} {cI cZ cO : ClassId} {A : Nat → Prop} (C : Cx p s m args meth c RX9 wsX9_gloveMost cX9_gloveMost 4 (some .int)) (K : Kx sx D (tyL cI cZ cO) A s) (a_told : Nat) (a_told_house : Nat) (a_told_free : Nat) (a_told_stuffed : Nat) (a_told_after : Nat) (a_told_weight : Nat) (a_told_need : Nat) (a_S : Nat) (a_S_cells : Nat) (a_laws : Nat) (told_gloves : Int32) (told_matters : Int32) (told_pride : Int32) (told_coins : Int32) (S_cells : Nat → Int32) (r0 : Int32)   (k4 : Int32 → Int32 → Int32 → Option (Int32)) (hk4 : ∀ (v1 : Int32) (v2 : Int32) (v3 : Int32) (H : Heap) (locs : List Loc) (ls : Array Slot), k4 v1 v2 v3 = some r0 → Wo D A s [(oX5 a_told (.int told_gloves) (.int told_matters) (.int told_pride) (.int told_coins) (.ref a_told_house) (.ref a_told_free) (.ref a_told_stuffed) (.ref a_told_after) (.ref a_told_weight) (.ref a_told_need)), (oX9 a_S (.ref a_S_cells) (.ref a_told) (.ref a_laws)), (a_S_cells, .inl (cI, 69, .inl S_cells))] H locs → lv_has ls 4 [(0, .ref a_S), (1, .int v1), (2, .int v2), (3, .int v3)] → W p l e rm_X9_gloveMost s m args below meth c H locs 0 0 (MQ below (QcI D A r0 [(oX5 a_told (.int told_gloves) (.int told_matters) (.int told_pride) (.int told_coins) (.ref a_told_house) (.ref a_told_free) (.ref a_told_stuffed) (.ref a_told_after) (.ref a_told_weight) (.ref a_told_need)), (oX9 a_S (.ref a_S_cells) (.ref a_told) (.ref a_laws)), (a_S_cells, .inl (cI, 69, .inl S_cells))]) args s 0 0 A) (F0 m 4 ls [])) (v1 : Int32) (v2 : Int32) (v3 : Int32) {H : Heap} {locs : List Loc} {ls : Array Slot} (hf : b_X9_gloveMost_4 told_gloves S_cells k4 v1 v2 v3 = some r0) (hw : Wo D A s [(oX5 a_told (.int told_gloves) (.int told_matters) (.int told_pride) (.int told_coins) (.ref a_told_house) (.ref a_told_free) (.ref a_told_stuffed) (.ref a_told_after) (.ref a_told_weight) (.ref a_told_need)), (oX9 a_S (.ref a_S_cells) (.ref a_told) (.ref a_laws)), (a_S_cells, .inl (cI, 69, .inl S_cells))] H locs) (hl : lv_has ls 4 [(0, .ref a_S), (1, .int v1), (2, .int v2), (3, .int v3)]) : W p l e rm_X9_gloveMost s m args below meth c H locs 0 0 (MQ below (QcI D A r0 [(oX5 a_told (.int told_gloves) (.int told_matters) (.int told_pride) (.int told_coins) (.ref a_told_house) (.ref a_told_free) (.ref a_told_stuffed) (.ref a_told_after) (.ref a_told_weight) (.ref a_told_need)), (oX9 a_S (.ref a_S_cells) (.ref a_told) (.ref a_laws)), (a_S_cells, .inl (cI, 69, .inl S_cells))]) args s 0 0 A) (F0 m 4 ls []) := by
  obtain ⟨hx, hb, hml, hown, hts, hr, hlk⟩ := id C
  obtain ⟨hK, hX, hA⟩ := id K
  unfold b_X9_gloveMost_4 at hf
  refine lv_iload_n hx hb dX9_gloveMost_4 rfl (lv_at hl 3 rfl) ?_
  refine lv_aload_n hx hb dX9_gloveMost_5 rfl (lv_at hl 0 rfl) ?_
  refine va_get (ci := 9) (v := .ref a_told) (C := RX9) (T := TX9) (N := 3) hx hb hts in_X9_gloveMost_X9 hown hK hw.1 1 rfl rfl 1 (by decide) (hts _ lk_X9_gloveMost_0) (fun _ h9 => h9) rfl dX9_gloveMost_6 ?_
  refine va_get (ci := 5) (v := .int told_gloves) (C := RX5) (T := TX5) (N := 10) hx hb hts in_X9_gloveMost_X5 hown hK hw.1 0 rfl rfl 0 (by decide) (hts _ lk_X9_gloveMost_1) (fun _ h9 => h9) rfl dX9_gloveMost_9 ?_
  refine lv_icmp_ge (tgt := 42) hx hb dX9_gloveMost_12 (by decide) (fun hc => ?_) (fun hc => ?_)
  · have hf := (if_pos hc).symm.trans hf
    refine lv_iload_n hx hb dX9_gloveMost_42 rfl (lv_at hl 2 rfl) ?_
    clear hk4; cases hf
    exact retI C hw dX9_gloveMost_43 rfl
  · have hf := (if_neg hc).symm.trans hf
    refine lv_aload_n hx hb dX9_gloveMost_15 rfl (lv_at hl 0 rfl) ?_
    refine va_get (ci := 9) (v := .ref a_S_cells) (C := RX9) (T := TX9) (N := 3) hx hb hts in_X9_gloveMost_X9 hown hK hw.1 1 rfl rfl 0 (by decide) (hts _ lk_X9_gloveMost_2) (fun _ h9 => h9) rfl dX9_gloveMost_16 ?_
    refine lv_iload_n hx hb dX9_gloveMost_19 rfl (lv_at hl 1 rfl) ?_
    refine lv_iload_n hx hb dX9_gloveMost_20 rfl (lv_at hl 3 rfl) ?_
    refine lv_iadd hx hb dX9_gloveMost_21 ?_
    obtain ⟨hc_1, hf⟩ := gd_some hf
    refine va_iald hx hb hK hw.1 2 0 rfl rfl (inB_in hc_1) dX9_gloveMost_22 ?_
    refine lv_aload_n hx hb dX9_gloveMost_23 rfl (lv_at hl 0 rfl) ?_
    refine va_get (ci := 9) (v := .ref a_S_cells) (C := RX9) (T := TX9) (N := 3) hx hb hts in_X9_gloveMost_X9 hown hK hw.1 1 rfl rfl 0 (by decide) (hts _ lk_X9_gloveMost_2) (fun _ h9 => h9) rfl dX9_gloveMost_24 ?_
    refine lv_iload_n hx hb dX9_gloveMost_27 rfl (lv_at hl 1 rfl) ?_
    refine lv_iload_n hx hb dX9_gloveMost_28 rfl (lv_at hl 2 rfl) ?_
    refine lv_iadd hx hb dX9_gloveMost_29 ?_
    obtain ⟨hc_2, hf⟩ := gd_some hf
    refine va_iald hx hb hK hw.1 2 0 rfl rfl (inB_in hc_2) dX9_gloveMost_30 ?_
    refine lv_icmp_le (tgt := 36) hx hb dX9_gloveMost_31 (by decide) (fun hc => ?_) (fun hc => ?_)
    · have hf := (if_pos hc).symm.trans hf
      exact q_X9_gloveMost_36 C K a_told a_told_house a_told_free a_told_stuffed a_told_after a_told_weight a_told_need a_S a_S_cells a_laws told_gloves told_matters told_pride told_coins S_cells r0 k4 hk4 v1 v2 v3 hf hw (lv_sub hl [0, 1, 2, 3] rfl)
    · have hf := (if_neg hc).symm.trans hf
      refine lv_iload_n hx hb dX9_gloveMost_34 rfl (lv_at hl 3 rfl) ?_
      refine lv_istore_n (lv' := [(2, .int v3), (0, .ref a_S), (1, .int v1), (3, .int v3)]) hx hb dX9_gloveMost_35 rfl hl (by decide) rfl (fun ls hl => ?_)
      exact q_X9_gloveMost_36 C K a_told a_told_house a_told_free a_told_stuffed a_told_after a_told_weight a_told_need a_S a_S_cells a_laws told_gloves told_matters told_pride told_coins S_cells r0 k4 hk4 v1 v3 v3 hf hw (lv_sub hl [1, 2, 0, 3] rfl)
theorem qf_X9_gloveMost_4 {p : Program} {l : Launch} {e : Env} {s : State} {m : MethodId} {args : Array Value} {below : List Frame} {meth : Method} {c : Code} {sx : List sx_T} {D : va_G} {cI cZ cO : ClassId} {A : Nat → Prop} (C : Cx p s m args meth c RX9 wsX9_gloveMost cX9_gloveMost 4 (some .int)) (K : Kx sx D (tyL cI cZ cO) A s) (a_told : Nat) (a_told_house : Nat) (a_told_free : Nat) (a_told_stuffed : Nat) (a_told_after : Nat) (a_told_weight : Nat) (a_told_need : Nat) (a_S : Nat) (a_S_cells : Nat) (a_laws : Nat) (told_gloves : Int32) (told_matters : Int32) (told_pride : Int32) (told_coins : Int32) (S_cells : Nat → Int32) (r0 : Int32)    (n : Nat) : ∀ (v1 : Int32) (v2 : Int32) (v3 : Int32) (H : Heap) (locs : List Loc) (ls : Array Slot), f_X9_gloveMost_4 told_gloves S_cells  n v1 v2 v3 = some r0 → Wo D A s [(oX5 a_told (.int told_gloves) (.int told_matters) (.int told_pride) (.int told_coins) (.ref a_told_house) (.ref a_told_free) (.ref a_told_stuffed) (.ref a_told_after) (.ref a_told_weight) (.ref a_told_need)), (oX9 a_S (.ref a_S_cells) (.ref a_told) (.ref a_laws)), (a_S_cells, .inl (cI, 69, .inl S_cells))] H locs → lv_has ls 4 [(0, .ref a_S), (1, .int v1), (2, .int v2), (3, .int v3)] → W p l e rm_X9_gloveMost s m args below meth c H locs 0 0 (MQ below (QcI D A r0 [(oX5 a_told (.int told_gloves) (.int told_matters) (.int told_pride) (.int told_coins) (.ref a_told_house) (.ref a_told_free) (.ref a_told_stuffed) (.ref a_told_after) (.ref a_told_weight) (.ref a_told_need)), (oX9 a_S (.ref a_S_cells) (.ref a_told) (.ref a_laws)), (a_S_cells, .inl (cI, 69, .inl S_cells))]) args s 0 0 A) (F0 m 4 ls []) := by
  induction n with
  | zero =>
    intro v1 v2 v3 H locs ls hf
    have h9 : (none : Option (Int32)) = some r0 := hf
    cases h9
  | succ n ih =>
    intro v1 v2 v3 H locs ls hf hw hl
    exact q_X9_gloveMost_4 C K a_told a_told_house a_told_free a_told_stuffed a_told_after a_told_weight a_told_need a_S a_S_cells a_laws told_gloves told_matters told_pride told_coins S_cells r0  (f_X9_gloveMost_4 told_gloves S_cells  n) ih v1 v2 v3 hf hw hl
set_option maxHeartbeats 4000000 in
set_option maxRecDepth 100000 in
theorem q_X9_gloveMost_0 {p : Program} {l : Launch} {e : Env} {s : State} {m : MethodId} {args : Array Value} {below : List Frame} {meth : Method} {c : Code} {sx : List sx_T} {D : va_G} {cI cZ cO : ClassId} {A : Nat → Prop} (C : Cx p s m args meth c RX9 wsX9_gloveMost cX9_gloveMost 4 (some .int)) (K : Kx sx D (tyL cI cZ cO) A s) (a_told : Nat) (a_told_house : Nat) (a_told_free : Nat) (a_told_stuffed : Nat) (a_told_after : Nat) (a_told_weight : Nat) (a_told_need : Nat) (a_S : Nat) (a_S_cells : Nat) (a_laws : Nat) (told_gloves : Int32) (told_matters : Int32) (told_pride : Int32) (told_coins : Int32) (S_cells : Nat → Int32) (r0 : Int32)    (v1 : Int32) {H : Heap} {locs : List Loc} {ls : Array Slot} (hf : b_X9_gloveMost_0 told_gloves S_cells  v1 = some r0) (hw : Wo D A s [(oX5 a_told (.int told_gloves) (.int told_matters) (.int told_pride) (.int told_coins) (.ref a_told_house) (.ref a_told_free) (.ref a_told_stuffed) (.ref a_told_after) (.ref a_told_weight) (.ref a_told_need)), (oX9 a_S (.ref a_S_cells) (.ref a_told) (.ref a_laws)), (a_S_cells, .inl (cI, 69, .inl S_cells))] H locs) (hl : lv_has ls 4 [(0, .ref a_S), (1, .int v1)]) : W p l e rm_X9_gloveMost s m args below meth c H locs 0 0 (MQ below (QcI D A r0 [(oX5 a_told (.int told_gloves) (.int told_matters) (.int told_pride) (.int told_coins) (.ref a_told_house) (.ref a_told_free) (.ref a_told_stuffed) (.ref a_told_after) (.ref a_told_weight) (.ref a_told_need)), (oX9 a_S (.ref a_S_cells) (.ref a_told) (.ref a_laws)), (a_S_cells, .inl (cI, 69, .inl S_cells))]) args s 0 0 A) (F0 m 0 ls []) := by
  obtain ⟨hx, hb, hml, hown, hts, hr, hlk⟩ := id C
  obtain ⟨hK, hX, hA⟩ := id K
  unfold b_X9_gloveMost_0 at hf
  refine lv_iconst (v := (0 : Int32)) hx hb dX9_gloveMost_0 (by decide) ?_
  refine lv_istore_n (lv' := [(2, .int (0 : Int32)), (0, .ref a_S), (1, .int v1)]) hx hb dX9_gloveMost_1 rfl hl (by decide) rfl (fun ls hl => ?_)
  refine lv_iconst (v := (1 : Int32)) hx hb dX9_gloveMost_2 (by decide) ?_
  refine lv_istore_n (lv' := [(3, .int (1 : Int32)), (2, .int (0 : Int32)), (0, .ref a_S), (1, .int v1)]) hx hb dX9_gloveMost_3 rfl hl (by decide) rfl (fun ls hl => ?_)
  exact qf_X9_gloveMost_4 C K a_told a_told_house a_told_free a_told_stuffed a_told_after a_told_weight a_told_need a_S a_S_cells a_laws told_gloves told_matters told_pride told_coins S_cells r0  fu v1 (0 : Int32) (1 : Int32) _ _ _ hf hw (lv_sub hl [2, 3, 1, 0] rfl)
set_option maxHeartbeats 4000000 in
set_option maxRecDepth 100000 in
theorem k_X9_gloveMost {l : Launch} {sx : List sx_T} {D : va_G} {cI cZ cO : ClassId} (a_told : Nat) (a_told_house : Nat) (a_told_free : Nat) (a_told_stuffed : Nat) (a_told_after : Nat) (a_told_weight : Nat) (a_told_need : Nat) (a_S : Nat) (a_S_cells : Nat) (a_laws : Nat) (told_gloves : Int32) (told_matters : Int32) (told_pride : Int32) (told_coins : Int32) (S_cells : Nat → Int32) (r0 : Int32) (p1 : Int32) (hF : f_X9_gloveMost told_gloves S_cells p1 = some r0) : CtI l yX9_gloveMost wsX9_gloveMost rm_X9_gloveMost sx D (tyL cI cZ cO) [.ref a_S, .int p1] [(oX5 a_told (.int told_gloves) (.int told_matters) (.int told_pride) (.int told_coins) (.ref a_told_house) (.ref a_told_free) (.ref a_told_stuffed) (.ref a_told_after) (.ref a_told_weight) (.ref a_told_need)), (oX9 a_S (.ref a_S_cells) (.ref a_told) (.ref a_laws)), (a_S_cells, .inl (cI, 69, .inl S_cells))] r0 [(oX5 a_told (.int told_gloves) (.int told_matters) (.int told_pride) (.int told_coins) (.ref a_told_house) (.ref a_told_free) (.ref a_told_stuffed) (.ref a_told_after) (.ref a_told_weight) (.ref a_told_need)), (oX9 a_S (.ref a_S_cells) (.ref a_told) (.ref a_laws)), (a_S_cells, .inl (cI, 69, .inl S_cells))] := by
  refine ctI_of (cc := cX9_gloveMost) (ret := (some .int)) (maxL := 4) (by decide) rfl (Nat.le_of_ble_eq_true rfl) ?_
  intro p e s m below meth c A ls C K hw hl
  exact q_X9_gloveMost_0 C K a_told a_told_house a_told_free a_told_stuffed a_told_after a_told_weight a_told_need a_S a_S_cells a_laws told_gloves told_matters told_pride told_coins S_cells r0 p1 hF hw (lv_sub hl [0, 1] rfl)
abbrev rm_X9_freest : Room := { frames := 1, cells := 0, slots := 0, locals := 23 }
set_option maxHeartbeats 4000000 in
set_option maxRecDepth 100000 in
theorem q_X9_freest_0 {p : Program} {l : Launch} {e : Env} {s : State} {m : MethodId} {args : Array Value} {below : List Frame} {meth : Method} {c : Code} {sx : List sx_T} {D : va_G} {cI cZ cO : ClassId} {A : Nat → Prop} (C : Cx p s m args meth c RX9 wsX9_freest cX9_freest 1 (some .int)) (K : Kx sx D (tyL cI cZ cO) A s) (a_told : Nat) (a_told_house : Nat) (a_told_free : Nat) (a_told_stuffed : Nat) (a_told_after : Nat) (a_told_weight : Nat) (a_told_need : Nat) (a_S : Nat) (a_S_cells : Nat) (a_laws : Nat) (told_gloves : Int32) (told_matters : Int32) (told_pride : Int32) (told_coins : Int32) (S_cells : Nat → Int32) (r0 : Int32)     {H : Heap} {locs : List Loc} {ls : Array Slot} (hf : b_X9_freest_0 told_gloves S_cells   = some r0) (hw : Wo D A s [(oX5 a_told (.int told_gloves) (.int told_matters) (.int told_pride) (.int told_coins) (.ref a_told_house) (.ref a_told_free) (.ref a_told_stuffed) (.ref a_told_after) (.ref a_told_weight) (.ref a_told_need)), (oX9 a_S (.ref a_S_cells) (.ref a_told) (.ref a_laws)), (a_S_cells, .inl (cI, 69, .inl S_cells))] H locs) (hl : lv_has ls 1 [(0, .ref a_S)]) : W p l e rm_X9_freest s m args below meth c H locs 0 0 (MQ below (QcI D A r0 [(oX5 a_told (.int told_gloves) (.int told_matters) (.int told_pride) (.int told_coins) (.ref a_told_house) (.ref a_told_free) (.ref a_told_stuffed) (.ref a_told_after) (.ref a_told_weight) (.ref a_told_need)), (oX9 a_S (.ref a_S_cells) (.ref a_told) (.ref a_laws)), (a_S_cells, .inl (cI, 69, .inl S_cells))]) args s 0 0 A) (F0 m 0 ls []) := by
  obtain ⟨hx, hb, hml, hown, hts, hr, hlk⟩ := id C
  obtain ⟨hK, hX, hA⟩ := id K
  unfold b_X9_freest_0 at hf
  refine lv_aload_n hx hb dX9_freest_0 rfl (lv_at hl 0 rfl) ?_
  refine lv_bipush (v := (36 : Int32)) hx hb dX9_freest_1 (by decide) ?_
  obtain ⟨r_1, hg_2, hf⟩ := ob1_some hf
  refine cl_ViA (As := [.int (36 : Int32)]) (rest := []) C K hw (k_X9_gloveMost a_told a_told_house a_told_free a_told_stuffed a_told_after a_told_weight a_told_need a_S a_S_cells a_laws told_gloves told_matters told_pride told_coins S_cells r_1 (36 : Int32) hg_2) [0, 1, 2] rfl (by decide) rfl rfl (ci := 9) (j := 1) rfl rfl (cwV 1 hts gX9_freest_X9_gloveMost rfl rfl rfl (by decide +kernel) ⟨Nat.le_of_ble_eq_true rfl, Nat.le_of_ble_eq_true rfl⟩) rfl hl rfl (Nat.le_of_ble_eq_true rfl) dX9_freest_3 ⟨Nat.zero_le _, Nat.zero_le _⟩ (fun H locs hw => ?_)
  have hw : Wo D A s [(oX5 a_told (.int told_gloves) (.int told_matters) (.int told_pride) (.int told_coins) (.ref a_told_house) (.ref a_told_free) (.ref a_told_stuffed) (.ref a_told_after) (.ref a_told_weight) (.ref a_told_need)), (oX9 a_S (.ref a_S_cells) (.ref a_told) (.ref a_laws)), (a_S_cells, .inl (cI, 69, .inl S_cells))] H locs := hw
  cases hf
  exact retI C hw dX9_freest_6 rfl
set_option maxHeartbeats 4000000 in
set_option maxRecDepth 100000 in
theorem k_X9_freest {l : Launch} {sx : List sx_T} {D : va_G} {cI cZ cO : ClassId} (a_told : Nat) (a_told_house : Nat) (a_told_free : Nat) (a_told_stuffed : Nat) (a_told_after : Nat) (a_told_weight : Nat) (a_told_need : Nat) (a_S : Nat) (a_S_cells : Nat) (a_laws : Nat) (told_gloves : Int32) (told_matters : Int32) (told_pride : Int32) (told_coins : Int32) (S_cells : Nat → Int32) (r0 : Int32) (hF : f_X9_freest told_gloves S_cells = some r0) : CtI l yX9_freest wsX9_freest rm_X9_freest sx D (tyL cI cZ cO) [.ref a_S] [(oX5 a_told (.int told_gloves) (.int told_matters) (.int told_pride) (.int told_coins) (.ref a_told_house) (.ref a_told_free) (.ref a_told_stuffed) (.ref a_told_after) (.ref a_told_weight) (.ref a_told_need)), (oX9 a_S (.ref a_S_cells) (.ref a_told) (.ref a_laws)), (a_S_cells, .inl (cI, 69, .inl S_cells))] r0 [(oX5 a_told (.int told_gloves) (.int told_matters) (.int told_pride) (.int told_coins) (.ref a_told_house) (.ref a_told_free) (.ref a_told_stuffed) (.ref a_told_after) (.ref a_told_weight) (.ref a_told_need)), (oX9 a_S (.ref a_S_cells) (.ref a_told) (.ref a_laws)), (a_S_cells, .inl (cI, 69, .inl S_cells))] := by
  refine ctI_of (cc := cX9_freest) (ret := (some .int)) (maxL := 1) (by decide) rfl (Nat.le_of_ble_eq_true rfl) ?_
  intro p e s m below meth c A ls C K hw hl
  exact q_X9_freest_0 C K a_told a_told_house a_told_free a_told_stuffed a_told_after a_told_weight a_told_need a_S a_S_cells a_laws told_gloves told_matters told_pride told_coins S_cells r0  hF hw (lv_sub hl [0] rfl)
abbrev rm_X9_stiffest : Room := { frames := 1, cells := 0, slots := 0, locals := 23 }
set_option maxHeartbeats 4000000 in
set_option maxRecDepth 100000 in
theorem q_X9_stiffest_0 {p : Program} {l : Launch} {e : Env} {s : State} {m : MethodId} {args : Array Value} {below : List Frame} {meth : Method} {c : Code} {sx : List sx_T} {D : va_G} {cI cZ cO : ClassId} {A : Nat → Prop} (C : Cx p s m args meth c RX9 wsX9_stiffest cX9_stiffest 1 (some .int)) (K : Kx sx D (tyL cI cZ cO) A s) (a_told : Nat) (a_told_house : Nat) (a_told_free : Nat) (a_told_stuffed : Nat) (a_told_after : Nat) (a_told_weight : Nat) (a_told_need : Nat) (a_S : Nat) (a_S_cells : Nat) (a_laws : Nat) (told_gloves : Int32) (told_matters : Int32) (told_pride : Int32) (told_coins : Int32) (S_cells : Nat → Int32) (r0 : Int32)     {H : Heap} {locs : List Loc} {ls : Array Slot} (hf : b_X9_stiffest_0 told_gloves S_cells   = some r0) (hw : Wo D A s [(oX5 a_told (.int told_gloves) (.int told_matters) (.int told_pride) (.int told_coins) (.ref a_told_house) (.ref a_told_free) (.ref a_told_stuffed) (.ref a_told_after) (.ref a_told_weight) (.ref a_told_need)), (oX9 a_S (.ref a_S_cells) (.ref a_told) (.ref a_laws)), (a_S_cells, .inl (cI, 69, .inl S_cells))] H locs) (hl : lv_has ls 1 [(0, .ref a_S)]) : W p l e rm_X9_stiffest s m args below meth c H locs 0 0 (MQ below (QcI D A r0 [(oX5 a_told (.int told_gloves) (.int told_matters) (.int told_pride) (.int told_coins) (.ref a_told_house) (.ref a_told_free) (.ref a_told_stuffed) (.ref a_told_after) (.ref a_told_weight) (.ref a_told_need)), (oX9 a_S (.ref a_S_cells) (.ref a_told) (.ref a_laws)), (a_S_cells, .inl (cI, 69, .inl S_cells))]) args s 0 0 A) (F0 m 0 ls []) := by
  obtain ⟨hx, hb, hml, hown, hts, hr, hlk⟩ := id C
  obtain ⟨hK, hX, hA⟩ := id K
  unfold b_X9_stiffest_0 at hf
  refine lv_aload_n hx hb dX9_stiffest_0 rfl (lv_at hl 0 rfl) ?_
  refine lv_bipush (v := (42 : Int32)) hx hb dX9_stiffest_1 (by decide) ?_
  obtain ⟨r_1, hg_2, hf⟩ := ob1_some hf
  refine cl_ViA (As := [.int (42 : Int32)]) (rest := []) C K hw (k_X9_gloveMost a_told a_told_house a_told_free a_told_stuffed a_told_after a_told_weight a_told_need a_S a_S_cells a_laws told_gloves told_matters told_pride told_coins S_cells r_1 (42 : Int32) hg_2) [0, 1, 2] rfl (by decide) rfl rfl (ci := 9) (j := 1) rfl rfl (cwV 1 hts gX9_stiffest_X9_gloveMost rfl rfl rfl (by decide +kernel) ⟨Nat.le_of_ble_eq_true rfl, Nat.le_of_ble_eq_true rfl⟩) rfl hl rfl (Nat.le_of_ble_eq_true rfl) dX9_stiffest_3 ⟨Nat.zero_le _, Nat.zero_le _⟩ (fun H locs hw => ?_)
  have hw : Wo D A s [(oX5 a_told (.int told_gloves) (.int told_matters) (.int told_pride) (.int told_coins) (.ref a_told_house) (.ref a_told_free) (.ref a_told_stuffed) (.ref a_told_after) (.ref a_told_weight) (.ref a_told_need)), (oX9 a_S (.ref a_S_cells) (.ref a_told) (.ref a_laws)), (a_S_cells, .inl (cI, 69, .inl S_cells))] H locs := hw
  cases hf
  exact retI C hw dX9_stiffest_6 rfl
set_option maxHeartbeats 4000000 in
set_option maxRecDepth 100000 in
theorem k_X9_stiffest {l : Launch} {sx : List sx_T} {D : va_G} {cI cZ cO : ClassId} (a_told : Nat) (a_told_house : Nat) (a_told_free : Nat) (a_told_stuffed : Nat) (a_told_after : Nat) (a_told_weight : Nat) (a_told_need : Nat) (a_S : Nat) (a_S_cells : Nat) (a_laws : Nat) (told_gloves : Int32) (told_matters : Int32) (told_pride : Int32) (told_coins : Int32) (S_cells : Nat → Int32) (r0 : Int32) (hF : f_X9_stiffest told_gloves S_cells = some r0) : CtI l yX9_stiffest wsX9_stiffest rm_X9_stiffest sx D (tyL cI cZ cO) [.ref a_S] [(oX5 a_told (.int told_gloves) (.int told_matters) (.int told_pride) (.int told_coins) (.ref a_told_house) (.ref a_told_free) (.ref a_told_stuffed) (.ref a_told_after) (.ref a_told_weight) (.ref a_told_need)), (oX9 a_S (.ref a_S_cells) (.ref a_told) (.ref a_laws)), (a_S_cells, .inl (cI, 69, .inl S_cells))] r0 [(oX5 a_told (.int told_gloves) (.int told_matters) (.int told_pride) (.int told_coins) (.ref a_told_house) (.ref a_told_free) (.ref a_told_stuffed) (.ref a_told_after) (.ref a_told_weight) (.ref a_told_need)), (oX9 a_S (.ref a_S_cells) (.ref a_told) (.ref a_laws)), (a_S_cells, .inl (cI, 69, .inl S_cells))] := by
  refine ctI_of (cc := cX9_stiffest) (ret := (some .int)) (maxL := 1) (by decide) rfl (Nat.le_of_ble_eq_true rfl) ?_
  intro p e s m below meth c A ls C K hw hl
  exact q_X9_stiffest_0 C K a_told a_told_house a_told_free a_told_stuffed a_told_after a_told_weight a_told_need a_S a_S_cells a_laws told_gloves told_matters told_pride told_coins S_cells r0  hF hw (lv_sub hl [0] rfl)
abbrev rm_X9_bound : Room := { frames := 1, cells := 0, slots := 0, locals := 21 }
theorem in_X9_bound_X9 : ∀ w ∈ u_ws RX9 TX9 3, w ∈ wsX9_bound := fun w h => List.mem_cons_of_mem _ (bi_wsX90 w h)
theorem in_X9_bound_X5 : ∀ w ∈ u_ws RX5 TX5 10, w ∈ wsX9_bound := fun w h => List.mem_cons_of_mem _ (bi_wsX50 w h)
theorem lk_X9_bound_0 : Cond.fieldLink RX9 15 "GloveHouses$State" "told" "LGloveHouses$Peace;" ∈ wsX9_bound := List.mem_cons_of_mem _ (bi_wsL_law0_r5 _ (List.mem_of_getElem? (i := 12) rfl))
theorem lk_X9_bound_1 : Cond.fieldLink RX9 93 "GloveHouses$Peace" "matters" "I" ∈ wsX9_bound := List.mem_cons_of_mem _ (bi_wsL_law0_r31 _ (List.mem_of_getElem? (i := 8) rfl))
theorem lk_X9_bound_2 : Cond.fieldLink RX9 128 "GloveHouses$Peace" "weight" "[I" ∈ wsX9_bound := List.mem_cons_of_mem _ (bi_wsL_law0_r56 _ (List.mem_of_getElem? (i := 17) rfl))
set_option maxHeartbeats 4000000 in
set_option maxRecDepth 100000 in
theorem q_X9_bound_36 {p : Program} {l : Launch} {e : Env} {s : State} {m : MethodId} {args : Array Value} {below : List Frame} {meth : Method} {c : Code} {sx : List sx_T} {D : va_G} {cI cZ cO : ClassId} {A : Nat → Prop} (C : Cx p s m args meth c RX9 wsX9_bound cX9_bound 3 (some .int)) (K : Kx sx D (tyL cI cZ cO) A s) (a_told : Nat) (a_told_house : Nat) (a_told_free : Nat) (a_told_stuffed : Nat) (a_told_after : Nat) (a_told_weight : Nat) (a_told_need : Nat) (a_S : Nat) (a_S_cells : Nat) (a_laws : Nat) (told_gloves : Int32) (told_matters : Int32) (told_pride : Int32) (told_coins : Int32) (told_weight : Nat → Int32) (S_cells : Nat → Int32) (r0 : Int32)   (k4 : Int32 → Int32 → Option (Int32)) (hk4 : ∀ (v1 : Int32) (v2 : Int32) (H : Heap) (locs : List Loc) (ls : Array Slot), k4 v1 v2 = some r0 → Wo D A s [(oX5 a_told (.int told_gloves) (.int told_matters) (.int told_pride) (.int told_coins) (.ref a_told_house) (.ref a_told_free) (.ref a_told_stuffed) (.ref a_told_after) (.ref a_told_weight) (.ref a_told_need)), (a_told_weight, .inl (cI, 5, .inl told_weight)), (oX9 a_S (.ref a_S_cells) (.ref a_told) (.ref a_laws)), (a_S_cells, .inl (cI, 69, .inl S_cells))] H locs → lv_has ls 3 [(0, .ref a_S), (1, .int v1), (2, .int v2)] → W p l e rm_X9_bound s m args below meth c H locs 0 0 (MQ below (QcI D A r0 [(oX5 a_told (.int told_gloves) (.int told_matters) (.int told_pride) (.int told_coins) (.ref a_told_house) (.ref a_told_free) (.ref a_told_stuffed) (.ref a_told_after) (.ref a_told_weight) (.ref a_told_need)), (a_told_weight, .inl (cI, 5, .inl told_weight)), (oX9 a_S (.ref a_S_cells) (.ref a_told) (.ref a_laws)), (a_S_cells, .inl (cI, 69, .inl S_cells))]) args s 0 0 A) (F0 m 4 ls [])) (v1 : Int32) (v2 : Int32) {H : Heap} {locs : List Loc} {ls : Array Slot} (hf : b_X9_bound_36 told_matters told_weight S_cells k4 v1 v2 = some r0) (hw : Wo D A s [(oX5 a_told (.int told_gloves) (.int told_matters) (.int told_pride) (.int told_coins) (.ref a_told_house) (.ref a_told_free) (.ref a_told_stuffed) (.ref a_told_after) (.ref a_told_weight) (.ref a_told_need)), (a_told_weight, .inl (cI, 5, .inl told_weight)), (oX9 a_S (.ref a_S_cells) (.ref a_told) (.ref a_laws)), (a_S_cells, .inl (cI, 69, .inl S_cells))] H locs) (hl : lv_has ls 3 [(0, .ref a_S), (1, .int v1), (2, .int v2)]) : W p l e rm_X9_bound s m args below meth c H locs 0 0 (MQ below (QcI D A r0 [(oX5 a_told (.int told_gloves) (.int told_matters) (.int told_pride) (.int told_coins) (.ref a_told_house) (.ref a_told_free) (.ref a_told_stuffed) (.ref a_told_after) (.ref a_told_weight) (.ref a_told_need)), (a_told_weight, .inl (cI, 5, .inl told_weight)), (oX9 a_S (.ref a_S_cells) (.ref a_told) (.ref a_laws)), (a_S_cells, .inl (cI, 69, .inl S_cells))]) args s 0 0 A) (F0 m 36 ls []) := by
  obtain ⟨hx, hb, hml, hown, hts, hr, hlk⟩ := id C
  obtain ⟨hK, hX, hA⟩ := id K
  unfold b_X9_bound_36 at hf
  obtain ⟨v2_1, e_v2_1, hf⟩ := bnd_some hf
  refine lv_iinc (v := v2_1) (lv' := [(2, .int v2_1), (0, .ref a_S), (1, .int v1)]) hx hb dX9_bound_36 hl (k := 2) rfl (by rw [e_v2_1]; rfl) (by decide) rfl (fun ls hl => ?_)
  refine lv_goto (tgt := 4) hx hb dX9_bound_39 (by decide) ?_
  exact hk4 v1 v2_1 _ _ _ hf hw (lv_sub hl [1, 2, 0] rfl)
set_option maxHeartbeats 4000000 in
set_option maxRecDepth 100000 in
theorem q_X9_bound_4 {p : Program} {l : Launch} {e : Env} {s : State} {m : MethodId} {args : Array Value} {below : List Frame} {meth : Method} {c : Code} {sx : List sx_T} {D : va_G} {cI cZ cO : ClassId} {A : Nat → Prop} (C : Cx p s m args meth c RX9 wsX9_bound cX9_bound 3 (some .int)) (K : Kx sx D (tyL cI cZ cO) A s) (a_told : Nat) (a_told_house : Nat) (a_told_free : Nat) (a_told_stuffed : Nat) (a_told_after : Nat) (a_told_weight : Nat) (a_told_need : Nat) (a_S : Nat) (a_S_cells : Nat) (a_laws : Nat) (told_gloves : Int32) (told_matters : Int32) (told_pride : Int32) (told_coins : Int32) (told_weight : Nat → Int32) (S_cells : Nat → Int32) (r0 : Int32)   (k4 : Int32 → Int32 → Option (Int32)) (hk4 : ∀ (v1 : Int32) (v2 : Int32) (H : Heap) (locs : List Loc) (ls : Array Slot), k4 v1 v2 = some r0 → Wo D A s [(oX5 a_told (.int told_gloves) (.int told_matters) (.int told_pride) (.int told_coins) (.ref a_told_house) (.ref a_told_free) (.ref a_told_stuffed) (.ref a_told_after) (.ref a_told_weight) (.ref a_told_need)), (a_told_weight, .inl (cI, 5, .inl told_weight)), (oX9 a_S (.ref a_S_cells) (.ref a_told) (.ref a_laws)), (a_S_cells, .inl (cI, 69, .inl S_cells))] H locs → lv_has ls 3 [(0, .ref a_S), (1, .int v1), (2, .int v2)] → W p l e rm_X9_bound s m args below meth c H locs 0 0 (MQ below (QcI D A r0 [(oX5 a_told (.int told_gloves) (.int told_matters) (.int told_pride) (.int told_coins) (.ref a_told_house) (.ref a_told_free) (.ref a_told_stuffed) (.ref a_told_after) (.ref a_told_weight) (.ref a_told_need)), (a_told_weight, .inl (cI, 5, .inl told_weight)), (oX9 a_S (.ref a_S_cells) (.ref a_told) (.ref a_laws)), (a_S_cells, .inl (cI, 69, .inl S_cells))]) args s 0 0 A) (F0 m 4 ls [])) (v1 : Int32) (v2 : Int32) {H : Heap} {locs : List Loc} {ls : Array Slot} (hf : b_X9_bound_4 told_matters told_weight S_cells k4 v1 v2 = some r0) (hw : Wo D A s [(oX5 a_told (.int told_gloves) (.int told_matters) (.int told_pride) (.int told_coins) (.ref a_told_house) (.ref a_told_free) (.ref a_told_stuffed) (.ref a_told_after) (.ref a_told_weight) (.ref a_told_need)), (a_told_weight, .inl (cI, 5, .inl told_weight)), (oX9 a_S (.ref a_S_cells) (.ref a_told) (.ref a_laws)), (a_S_cells, .inl (cI, 69, .inl S_cells))] H locs) (hl : lv_has ls 3 [(0, .ref a_S), (1, .int v1), (2, .int v2)]) : W p l e rm_X9_bound s m args below meth c H locs 0 0 (MQ below (QcI D A r0 [(oX5 a_told (.int told_gloves) (.int told_matters) (.int told_pride) (.int told_coins) (.ref a_told_house) (.ref a_told_free) (.ref a_told_stuffed) (.ref a_told_after) (.ref a_told_weight) (.ref a_told_need)), (a_told_weight, .inl (cI, 5, .inl told_weight)), (oX9 a_S (.ref a_S_cells) (.ref a_told) (.ref a_laws)), (a_S_cells, .inl (cI, 69, .inl S_cells))]) args s 0 0 A) (F0 m 4 ls []) := by
  obtain ⟨hx, hb, hml, hown, hts, hr, hlk⟩ := id C
  obtain ⟨hK, hX, hA⟩ := id K
  unfold b_X9_bound_4 at hf
  refine lv_iload_n hx hb dX9_bound_4 rfl (lv_at hl 2 rfl) ?_
  refine lv_aload_n hx hb dX9_bound_5 rfl (lv_at hl 0 rfl) ?_
  refine va_get (ci := 9) (v := .ref a_told) (C := RX9) (T := TX9) (N := 3) hx hb hts in_X9_bound_X9 hown hK hw.1 2 rfl rfl 1 (by decide) (hts _ lk_X9_bound_0) (fun _ h9 => h9) rfl dX9_bound_6 ?_
  refine va_get (ci := 5) (v := .int told_matters) (C := RX5) (T := TX5) (N := 10) hx hb hts in_X9_bound_X5 hown hK hw.1 0 rfl rfl 1 (by decide) (hts _ lk_X9_bound_1) (fun _ h9 => h9) rfl dX9_bound_9 ?_
  refine lv_icmp_ge (tgt := 42) hx hb dX9_bound_12 (by decide) (fun hc => ?_) (fun hc => ?_)
  · have hf := (if_pos hc).symm.trans hf
    refine lv_iload_n hx hb dX9_bound_42 rfl (lv_at hl 1 rfl) ?_
    clear hk4; cases hf
    exact retI C hw dX9_bound_43 rfl
  · have hf := (if_neg hc).symm.trans hf
    refine lv_aload_n hx hb dX9_bound_15 rfl (lv_at hl 0 rfl) ?_
    refine lv_iload_n hx hb dX9_bound_16 rfl (lv_at hl 2 rfl) ?_
    obtain ⟨r_1, hg_2, hf⟩ := ob1_some hf
    refine cl_ViA (As := [.int v2]) (rest := []) C K hw (k_X9_signers a_S a_S_cells a_told a_laws S_cells r_1 v2 hg_2) [2, 3] rfl (by decide) rfl rfl (ci := 9) (j := 2) rfl rfl (cwV 1 hts gX9_bound_X9_signers rfl rfl rfl (by decide +kernel) ⟨Nat.le_of_ble_eq_true rfl, Nat.le_of_ble_eq_true rfl⟩) rfl hl rfl (Nat.le_of_ble_eq_true rfl) dX9_bound_17 ⟨Nat.zero_le _, Nat.zero_le _⟩ (fun H locs hw => ?_)
    have hw : Wo D A s [(oX5 a_told (.int told_gloves) (.int told_matters) (.int told_pride) (.int told_coins) (.ref a_told_house) (.ref a_told_free) (.ref a_told_stuffed) (.ref a_told_after) (.ref a_told_weight) (.ref a_told_need)), (a_told_weight, .inl (cI, 5, .inl told_weight)), (oX9 a_S (.ref a_S_cells) (.ref a_told) (.ref a_laws)), (a_S_cells, .inl (cI, 69, .inl S_cells))] H locs := hw
    refine lv_iconst (v := (-1 : Int32)) hx hb dX9_bound_20 (by decide) ?_
    refine lv_icmp_eq (tgt := 36) hx hb dX9_bound_21 (by decide) (fun hc => ?_) (fun hc => ?_)
    · have hf := (if_pos hc).symm.trans hf
      exact q_X9_bound_36 C K a_told a_told_house a_told_free a_told_stuffed a_told_after a_told_weight a_told_need a_S a_S_cells a_laws told_gloves told_matters told_pride told_coins told_weight S_cells r0 k4 hk4 v1 v2 hf hw (lv_sub hl [0, 1, 2] rfl)
    · have hf := (if_neg hc).symm.trans hf
      refine lv_iload_n hx hb dX9_bound_24 rfl (lv_at hl 1 rfl) ?_
      refine lv_aload_n hx hb dX9_bound_25 rfl (lv_at hl 0 rfl) ?_
      refine va_get (ci := 9) (v := .ref a_told) (C := RX9) (T := TX9) (N := 3) hx hb hts in_X9_bound_X9 hown hK hw.1 2 rfl rfl 1 (by decide) (hts _ lk_X9_bound_0) (fun _ h9 => h9) rfl dX9_bound_26 ?_
      refine va_get (ci := 5) (v := .ref a_told_weight) (C := RX5) (T := TX5) (N := 10) hx hb hts in_X9_bound_X5 hown hK hw.1 0 rfl rfl 8 (by decide) (hts _ lk_X9_bound_2) (fun _ h9 => h9) rfl dX9_bound_29 ?_
      refine lv_iload_n hx hb dX9_bound_32 rfl (lv_at hl 2 rfl) ?_
      obtain ⟨hc_3, hf⟩ := gd_some hf
      refine va_iald hx hb hK hw.1 1 0 rfl rfl (inB_in hc_3) dX9_bound_33 ?_
      refine lv_iadd hx hb dX9_bound_34 ?_
      obtain ⟨v1_4, e_v1_4, hf⟩ := bnd_some hf
      refine lv_nmi e_v1_4 ?_
      refine lv_istore_n (lv' := [(1, .int v1_4), (0, .ref a_S), (2, .int v2)]) hx hb dX9_bound_35 rfl hl (by decide) rfl (fun ls hl => ?_)
      exact q_X9_bound_36 C K a_told a_told_house a_told_free a_told_stuffed a_told_after a_told_weight a_told_need a_S a_S_cells a_laws told_gloves told_matters told_pride told_coins told_weight S_cells r0 k4 hk4 v1_4 v2 hf hw (lv_sub hl [1, 0, 2] rfl)
theorem qf_X9_bound_4 {p : Program} {l : Launch} {e : Env} {s : State} {m : MethodId} {args : Array Value} {below : List Frame} {meth : Method} {c : Code} {sx : List sx_T} {D : va_G} {cI cZ cO : ClassId} {A : Nat → Prop} (C : Cx p s m args meth c RX9 wsX9_bound cX9_bound 3 (some .int)) (K : Kx sx D (tyL cI cZ cO) A s) (a_told : Nat) (a_told_house : Nat) (a_told_free : Nat) (a_told_stuffed : Nat) (a_told_after : Nat) (a_told_weight : Nat) (a_told_need : Nat) (a_S : Nat) (a_S_cells : Nat) (a_laws : Nat) (told_gloves : Int32) (told_matters : Int32) (told_pride : Int32) (told_coins : Int32) (told_weight : Nat → Int32) (S_cells : Nat → Int32) (r0 : Int32)    (n : Nat) : ∀ (v1 : Int32) (v2 : Int32) (H : Heap) (locs : List Loc) (ls : Array Slot), f_X9_bound_4 told_matters told_weight S_cells  n v1 v2 = some r0 → Wo D A s [(oX5 a_told (.int told_gloves) (.int told_matters) (.int told_pride) (.int told_coins) (.ref a_told_house) (.ref a_told_free) (.ref a_told_stuffed) (.ref a_told_after) (.ref a_told_weight) (.ref a_told_need)), (a_told_weight, .inl (cI, 5, .inl told_weight)), (oX9 a_S (.ref a_S_cells) (.ref a_told) (.ref a_laws)), (a_S_cells, .inl (cI, 69, .inl S_cells))] H locs → lv_has ls 3 [(0, .ref a_S), (1, .int v1), (2, .int v2)] → W p l e rm_X9_bound s m args below meth c H locs 0 0 (MQ below (QcI D A r0 [(oX5 a_told (.int told_gloves) (.int told_matters) (.int told_pride) (.int told_coins) (.ref a_told_house) (.ref a_told_free) (.ref a_told_stuffed) (.ref a_told_after) (.ref a_told_weight) (.ref a_told_need)), (a_told_weight, .inl (cI, 5, .inl told_weight)), (oX9 a_S (.ref a_S_cells) (.ref a_told) (.ref a_laws)), (a_S_cells, .inl (cI, 69, .inl S_cells))]) args s 0 0 A) (F0 m 4 ls []) := by
  induction n with
  | zero =>
    intro v1 v2 H locs ls hf
    have h9 : (none : Option (Int32)) = some r0 := hf
    cases h9
  | succ n ih =>
    intro v1 v2 H locs ls hf hw hl
    exact q_X9_bound_4 C K a_told a_told_house a_told_free a_told_stuffed a_told_after a_told_weight a_told_need a_S a_S_cells a_laws told_gloves told_matters told_pride told_coins told_weight S_cells r0  (f_X9_bound_4 told_matters told_weight S_cells  n) ih v1 v2 hf hw hl
set_option maxHeartbeats 4000000 in
set_option maxRecDepth 100000 in
theorem q_X9_bound_0 {p : Program} {l : Launch} {e : Env} {s : State} {m : MethodId} {args : Array Value} {below : List Frame} {meth : Method} {c : Code} {sx : List sx_T} {D : va_G} {cI cZ cO : ClassId} {A : Nat → Prop} (C : Cx p s m args meth c RX9 wsX9_bound cX9_bound 3 (some .int)) (K : Kx sx D (tyL cI cZ cO) A s) (a_told : Nat) (a_told_house : Nat) (a_told_free : Nat) (a_told_stuffed : Nat) (a_told_after : Nat) (a_told_weight : Nat) (a_told_need : Nat) (a_S : Nat) (a_S_cells : Nat) (a_laws : Nat) (told_gloves : Int32) (told_matters : Int32) (told_pride : Int32) (told_coins : Int32) (told_weight : Nat → Int32) (S_cells : Nat → Int32) (r0 : Int32)     {H : Heap} {locs : List Loc} {ls : Array Slot} (hf : b_X9_bound_0 told_matters told_weight S_cells   = some r0) (hw : Wo D A s [(oX5 a_told (.int told_gloves) (.int told_matters) (.int told_pride) (.int told_coins) (.ref a_told_house) (.ref a_told_free) (.ref a_told_stuffed) (.ref a_told_after) (.ref a_told_weight) (.ref a_told_need)), (a_told_weight, .inl (cI, 5, .inl told_weight)), (oX9 a_S (.ref a_S_cells) (.ref a_told) (.ref a_laws)), (a_S_cells, .inl (cI, 69, .inl S_cells))] H locs) (hl : lv_has ls 3 [(0, .ref a_S)]) : W p l e rm_X9_bound s m args below meth c H locs 0 0 (MQ below (QcI D A r0 [(oX5 a_told (.int told_gloves) (.int told_matters) (.int told_pride) (.int told_coins) (.ref a_told_house) (.ref a_told_free) (.ref a_told_stuffed) (.ref a_told_after) (.ref a_told_weight) (.ref a_told_need)), (a_told_weight, .inl (cI, 5, .inl told_weight)), (oX9 a_S (.ref a_S_cells) (.ref a_told) (.ref a_laws)), (a_S_cells, .inl (cI, 69, .inl S_cells))]) args s 0 0 A) (F0 m 0 ls []) := by
  obtain ⟨hx, hb, hml, hown, hts, hr, hlk⟩ := id C
  obtain ⟨hK, hX, hA⟩ := id K
  unfold b_X9_bound_0 at hf
  refine lv_iconst (v := (0 : Int32)) hx hb dX9_bound_0 (by decide) ?_
  refine lv_istore_n (lv' := [(1, .int (0 : Int32)), (0, .ref a_S)]) hx hb dX9_bound_1 rfl hl (by decide) rfl (fun ls hl => ?_)
  refine lv_iconst (v := (0 : Int32)) hx hb dX9_bound_2 (by decide) ?_
  refine lv_istore_n (lv' := [(2, .int (0 : Int32)), (1, .int (0 : Int32)), (0, .ref a_S)]) hx hb dX9_bound_3 rfl hl (by decide) rfl (fun ls hl => ?_)
  exact qf_X9_bound_4 C K a_told a_told_house a_told_free a_told_stuffed a_told_after a_told_weight a_told_need a_S a_S_cells a_laws told_gloves told_matters told_pride told_coins told_weight S_cells r0  fu (0 : Int32) (0 : Int32) _ _ _ hf hw (lv_sub hl [2, 1, 0] rfl)
set_option maxHeartbeats 4000000 in
set_option maxRecDepth 100000 in
theorem k_X9_bound {l : Launch} {sx : List sx_T} {D : va_G} {cI cZ cO : ClassId} (a_told : Nat) (a_told_house : Nat) (a_told_free : Nat) (a_told_stuffed : Nat) (a_told_after : Nat) (a_told_weight : Nat) (a_told_need : Nat) (a_S : Nat) (a_S_cells : Nat) (a_laws : Nat) (told_gloves : Int32) (told_matters : Int32) (told_pride : Int32) (told_coins : Int32) (told_weight : Nat → Int32) (S_cells : Nat → Int32) (r0 : Int32) (hF : f_X9_bound told_matters told_weight S_cells = some r0) : CtI l yX9_bound wsX9_bound rm_X9_bound sx D (tyL cI cZ cO) [.ref a_S] [(oX5 a_told (.int told_gloves) (.int told_matters) (.int told_pride) (.int told_coins) (.ref a_told_house) (.ref a_told_free) (.ref a_told_stuffed) (.ref a_told_after) (.ref a_told_weight) (.ref a_told_need)), (a_told_weight, .inl (cI, 5, .inl told_weight)), (oX9 a_S (.ref a_S_cells) (.ref a_told) (.ref a_laws)), (a_S_cells, .inl (cI, 69, .inl S_cells))] r0 [(oX5 a_told (.int told_gloves) (.int told_matters) (.int told_pride) (.int told_coins) (.ref a_told_house) (.ref a_told_free) (.ref a_told_stuffed) (.ref a_told_after) (.ref a_told_weight) (.ref a_told_need)), (a_told_weight, .inl (cI, 5, .inl told_weight)), (oX9 a_S (.ref a_S_cells) (.ref a_told) (.ref a_laws)), (a_S_cells, .inl (cI, 69, .inl S_cells))] := by
  refine ctI_of (cc := cX9_bound) (ret := (some .int)) (maxL := 3) (by decide) rfl (Nat.le_of_ble_eq_true rfl) ?_
  intro p e s m below meth c A ls C K hw hl
  exact q_X9_bound_0 C K a_told a_told_house a_told_free a_told_stuffed a_told_after a_told_weight a_told_need a_S a_S_cells a_laws told_gloves told_matters told_pride told_coins told_weight S_cells r0  hF hw (lv_sub hl [0] rfl)
abbrev rm_X9_dueBits : Room := { frames := 4, cells := 0, slots := 0, locals := 87 }
theorem in_X9_dueBits_X9 : ∀ w ∈ u_ws RX9 TX9 3, w ∈ wsX9_dueBits := fun w h => List.mem_cons_of_mem _ (bi_wsX90 w h)
theorem in_X9_dueBits_X5 : ∀ w ∈ u_ws RX5 TX5 10, w ∈ wsX9_dueBits := fun w h => List.mem_cons_of_mem _ (bi_wsX50 w h)
theorem lk_X9_dueBits_0 : Cond.fieldLink RX9 15 "GloveHouses$State" "told" "LGloveHouses$Peace;" ∈ wsX9_dueBits := List.mem_cons_of_mem _ (bi_wsL_law0_r5 _ (List.mem_of_getElem? (i := 12) rfl))
theorem lk_X9_dueBits_1 : Cond.fieldLink RX9 93 "GloveHouses$Peace" "matters" "I" ∈ wsX9_dueBits := List.mem_cons_of_mem _ (bi_wsL_law0_r31 _ (List.mem_of_getElem? (i := 8) rfl))
theorem lk_X9_dueBits_2 : Cond.fieldLink RX9 99 "GloveHouses$Peace" "need" "[I" ∈ wsX9_dueBits := List.mem_cons_of_mem _ (bi_wsL_law0_r31 _ (List.mem_of_getElem? (i := 9) rfl))
set_option maxHeartbeats 4000000 in
set_option maxRecDepth 100000 in
theorem q_X9_dueBits_75 {p : Program} {l : Launch} {e : Env} {s : State} {m : MethodId} {args : Array Value} {below : List Frame} {meth : Method} {c : Code} {sx : List sx_T} {D : va_G} {cI cZ cO : ClassId} {A : Nat → Prop} (C : Cx p s m args meth c RX9 wsX9_dueBits cX9_dueBits 5 (some .int)) (K : Kx sx D (tyL cI cZ cO) A s) (a_told : Nat) (a_told_house : Nat) (a_told_free : Nat) (a_told_stuffed : Nat) (a_told_after : Nat) (a_told_weight : Nat) (a_told_need : Nat) (a_S : Nat) (a_S_cells : Nat) (a_laws : Nat) (told_gloves : Int32) (told_matters : Int32) (told_pride : Int32) (told_coins : Int32) (told_house : Nat → Int32) (told_need : Nat → Int32) (S_cells : Nat → Int32) (r0 : Int32)   (k32 : Int32 → Int32 → Int32 → Option (Int32)) (hk32 : ∀ (v2 : Int32) (v3 : Int32) (v4 : Int32) (H : Heap) (locs : List Loc) (ls : Array Slot), k32 v2 v3 v4 = some r0 → Wo D A s [(oX5 a_told (.int told_gloves) (.int told_matters) (.int told_pride) (.int told_coins) (.ref a_told_house) (.ref a_told_free) (.ref a_told_stuffed) (.ref a_told_after) (.ref a_told_weight) (.ref a_told_need)), (a_told_house, .inl (cI, 6, .inl told_house)), (a_told_need, .inl (cI, 5, .inl told_need)), (oX9 a_S (.ref a_S_cells) (.ref a_told) (.ref a_laws)), (a_S_cells, .inl (cI, 69, .inl S_cells))] H locs → lv_has ls 5 [(0, .ref a_S), (2, .int v2), (3, .int v3), (4, .int v4)] → W p l e rm_X9_dueBits s m args below meth c H locs 0 0 (MQ below (QcI D A r0 [(oX5 a_told (.int told_gloves) (.int told_matters) (.int told_pride) (.int told_coins) (.ref a_told_house) (.ref a_told_free) (.ref a_told_stuffed) (.ref a_told_after) (.ref a_told_weight) (.ref a_told_need)), (a_told_house, .inl (cI, 6, .inl told_house)), (a_told_need, .inl (cI, 5, .inl told_need)), (oX9 a_S (.ref a_S_cells) (.ref a_told) (.ref a_laws)), (a_S_cells, .inl (cI, 69, .inl S_cells))]) args s 0 0 A) (F0 m 32 ls [])) (v2 : Int32) (v3 : Int32) (v4 : Int32) {H : Heap} {locs : List Loc} {ls : Array Slot} (hf : b_X9_dueBits_75 told_gloves told_matters told_house told_need S_cells k32 v2 v3 v4 = some r0) (hw : Wo D A s [(oX5 a_told (.int told_gloves) (.int told_matters) (.int told_pride) (.int told_coins) (.ref a_told_house) (.ref a_told_free) (.ref a_told_stuffed) (.ref a_told_after) (.ref a_told_weight) (.ref a_told_need)), (a_told_house, .inl (cI, 6, .inl told_house)), (a_told_need, .inl (cI, 5, .inl told_need)), (oX9 a_S (.ref a_S_cells) (.ref a_told) (.ref a_laws)), (a_S_cells, .inl (cI, 69, .inl S_cells))] H locs) (hl : lv_has ls 5 [(0, .ref a_S), (2, .int v2), (3, .int v3), (4, .int v4)]) : W p l e rm_X9_dueBits s m args below meth c H locs 0 0 (MQ below (QcI D A r0 [(oX5 a_told (.int told_gloves) (.int told_matters) (.int told_pride) (.int told_coins) (.ref a_told_house) (.ref a_told_free) (.ref a_told_stuffed) (.ref a_told_after) (.ref a_told_weight) (.ref a_told_need)), (a_told_house, .inl (cI, 6, .inl told_house)), (a_told_need, .inl (cI, 5, .inl told_need)), (oX9 a_S (.ref a_S_cells) (.ref a_told) (.ref a_laws)), (a_S_cells, .inl (cI, 69, .inl S_cells))]) args s 0 0 A) (F0 m 75 ls []) := by
  obtain ⟨hx, hb, hml, hown, hts, hr, hlk⟩ := id C
  obtain ⟨hK, hX, hA⟩ := id K
  unfold b_X9_dueBits_75 at hf
  obtain ⟨v4_1, e_v4_1, hf⟩ := bnd_some hf
  refine lv_iinc (v := v4_1) (lv' := [(4, .int v4_1), (0, .ref a_S), (2, .int v2), (3, .int v3)]) hx hb dX9_dueBits_75 hl (k := 3) rfl (by rw [e_v4_1]; rfl) (by decide) rfl (fun ls hl => ?_)
  refine lv_goto (tgt := 32) hx hb dX9_dueBits_78 (by decide) ?_
  exact hk32 v2 v3 v4_1 _ _ _ hf hw (lv_sub hl [1, 2, 3, 0] rfl)
set_option maxHeartbeats 4000000 in
set_option maxRecDepth 100000 in
theorem q_X9_dueBits_32 {p : Program} {l : Launch} {e : Env} {s : State} {m : MethodId} {args : Array Value} {below : List Frame} {meth : Method} {c : Code} {sx : List sx_T} {D : va_G} {cI cZ cO : ClassId} {A : Nat → Prop} (C : Cx p s m args meth c RX9 wsX9_dueBits cX9_dueBits 5 (some .int)) (K : Kx sx D (tyL cI cZ cO) A s) (a_told : Nat) (a_told_house : Nat) (a_told_free : Nat) (a_told_stuffed : Nat) (a_told_after : Nat) (a_told_weight : Nat) (a_told_need : Nat) (a_S : Nat) (a_S_cells : Nat) (a_laws : Nat) (told_gloves : Int32) (told_matters : Int32) (told_pride : Int32) (told_coins : Int32) (told_house : Nat → Int32) (told_need : Nat → Int32) (S_cells : Nat → Int32) (r0 : Int32)   (k32 : Int32 → Int32 → Int32 → Option (Int32)) (hk32 : ∀ (v2 : Int32) (v3 : Int32) (v4 : Int32) (H : Heap) (locs : List Loc) (ls : Array Slot), k32 v2 v3 v4 = some r0 → Wo D A s [(oX5 a_told (.int told_gloves) (.int told_matters) (.int told_pride) (.int told_coins) (.ref a_told_house) (.ref a_told_free) (.ref a_told_stuffed) (.ref a_told_after) (.ref a_told_weight) (.ref a_told_need)), (a_told_house, .inl (cI, 6, .inl told_house)), (a_told_need, .inl (cI, 5, .inl told_need)), (oX9 a_S (.ref a_S_cells) (.ref a_told) (.ref a_laws)), (a_S_cells, .inl (cI, 69, .inl S_cells))] H locs → lv_has ls 5 [(0, .ref a_S), (2, .int v2), (3, .int v3), (4, .int v4)] → W p l e rm_X9_dueBits s m args below meth c H locs 0 0 (MQ below (QcI D A r0 [(oX5 a_told (.int told_gloves) (.int told_matters) (.int told_pride) (.int told_coins) (.ref a_told_house) (.ref a_told_free) (.ref a_told_stuffed) (.ref a_told_after) (.ref a_told_weight) (.ref a_told_need)), (a_told_house, .inl (cI, 6, .inl told_house)), (a_told_need, .inl (cI, 5, .inl told_need)), (oX9 a_S (.ref a_S_cells) (.ref a_told) (.ref a_laws)), (a_S_cells, .inl (cI, 69, .inl S_cells))]) args s 0 0 A) (F0 m 32 ls [])) (v2 : Int32) (v3 : Int32) (v4 : Int32) {H : Heap} {locs : List Loc} {ls : Array Slot} (hf : b_X9_dueBits_32 told_gloves told_matters told_house told_need S_cells k32 v2 v3 v4 = some r0) (hw : Wo D A s [(oX5 a_told (.int told_gloves) (.int told_matters) (.int told_pride) (.int told_coins) (.ref a_told_house) (.ref a_told_free) (.ref a_told_stuffed) (.ref a_told_after) (.ref a_told_weight) (.ref a_told_need)), (a_told_house, .inl (cI, 6, .inl told_house)), (a_told_need, .inl (cI, 5, .inl told_need)), (oX9 a_S (.ref a_S_cells) (.ref a_told) (.ref a_laws)), (a_S_cells, .inl (cI, 69, .inl S_cells))] H locs) (hl : lv_has ls 5 [(0, .ref a_S), (2, .int v2), (3, .int v3), (4, .int v4)]) : W p l e rm_X9_dueBits s m args below meth c H locs 0 0 (MQ below (QcI D A r0 [(oX5 a_told (.int told_gloves) (.int told_matters) (.int told_pride) (.int told_coins) (.ref a_told_house) (.ref a_told_free) (.ref a_told_stuffed) (.ref a_told_after) (.ref a_told_weight) (.ref a_told_need)), (a_told_house, .inl (cI, 6, .inl told_house)), (a_told_need, .inl (cI, 5, .inl told_need)), (oX9 a_S (.ref a_S_cells) (.ref a_told) (.ref a_laws)), (a_S_cells, .inl (cI, 69, .inl S_cells))]) args s 0 0 A) (F0 m 32 ls []) := by
  obtain ⟨hx, hb, hml, hown, hts, hr, hlk⟩ := id C
  obtain ⟨hK, hX, hA⟩ := id K
  unfold b_X9_dueBits_32 at hf
  refine lv_iload hx hb dX9_dueBits_32 (lv_at hl 3 rfl) ?_
  refine lv_aload_n hx hb dX9_dueBits_34 rfl (lv_at hl 0 rfl) ?_
  refine va_get (ci := 9) (v := .ref a_told) (C := RX9) (T := TX9) (N := 3) hx hb hts in_X9_dueBits_X9 hown hK hw.1 3 rfl rfl 1 (by decide) (hts _ lk_X9_dueBits_0) (fun _ h9 => h9) rfl dX9_dueBits_35 ?_
  refine va_get (ci := 5) (v := .int told_matters) (C := RX5) (T := TX5) (N := 10) hx hb hts in_X9_dueBits_X5 hown hK hw.1 0 rfl rfl 1 (by decide) (hts _ lk_X9_dueBits_1) (fun _ h9 => h9) rfl dX9_dueBits_38 ?_
  refine lv_icmp_ge (tgt := 81) hx hb dX9_dueBits_41 (by decide) (fun hc => ?_) (fun hc => ?_)
  · have hf := (if_pos hc).symm.trans hf
    refine lv_iload_n hx hb dX9_dueBits_81 rfl (lv_at hl 2 rfl) ?_
    clear hk32; cases hf
    exact retI C hw dX9_dueBits_82 rfl
  · have hf := (if_neg hc).symm.trans hf
    refine lv_aload_n hx hb dX9_dueBits_44 rfl (lv_at hl 0 rfl) ?_
    refine lv_iload hx hb dX9_dueBits_45 (lv_at hl 3 rfl) ?_
    obtain ⟨r_1, hg_2, hf⟩ := ob1_some hf
    refine cl_ViA (As := [.int v4]) (rest := []) C K hw (k_X9_signers a_S a_S_cells a_told a_laws S_cells r_1 v4 hg_2) [3, 4] rfl (by decide) rfl rfl (ci := 9) (j := 3) rfl rfl (cwV 1 hts gX9_dueBits_X9_signers rfl rfl rfl (by decide +kernel) ⟨Nat.le_of_ble_eq_true rfl, Nat.le_of_ble_eq_true rfl⟩) rfl hl rfl (Nat.le_of_ble_eq_true rfl) dX9_dueBits_47 ⟨Nat.zero_le _, Nat.zero_le _⟩ (fun H locs hw => ?_)
    have hw : Wo D A s [(oX5 a_told (.int told_gloves) (.int told_matters) (.int told_pride) (.int told_coins) (.ref a_told_house) (.ref a_told_free) (.ref a_told_stuffed) (.ref a_told_after) (.ref a_told_weight) (.ref a_told_need)), (a_told_house, .inl (cI, 6, .inl told_house)), (a_told_need, .inl (cI, 5, .inl told_need)), (oX9 a_S (.ref a_S_cells) (.ref a_told) (.ref a_laws)), (a_S_cells, .inl (cI, 69, .inl S_cells))] H locs := hw
    refine lv_iconst (v := (-1 : Int32)) hx hb dX9_dueBits_50 (by decide) ?_
    refine lv_icmp_ne (tgt := 75) hx hb dX9_dueBits_51 (by decide) (fun hc => ?_) (fun hc => ?_)
    · have hf := (if_neg hc).symm.trans hf
      exact q_X9_dueBits_75 C K a_told a_told_house a_told_free a_told_stuffed a_told_after a_told_weight a_told_need a_S a_S_cells a_laws told_gloves told_matters told_pride told_coins told_house told_need S_cells r0 k32 hk32 v2 v3 v4 hf hw (lv_sub hl [0, 1, 2, 3] rfl)
    · have hf := (if_pos hc).symm.trans hf
      refine lv_iload_n hx hb dX9_dueBits_54 rfl (lv_at hl 1 rfl) ?_
      refine lv_aload_n hx hb dX9_dueBits_55 rfl (lv_at hl 0 rfl) ?_
      refine va_get (ci := 9) (v := .ref a_told) (C := RX9) (T := TX9) (N := 3) hx hb hts in_X9_dueBits_X9 hown hK hw.1 3 rfl rfl 1 (by decide) (hts _ lk_X9_dueBits_0) (fun _ h9 => h9) rfl dX9_dueBits_56 ?_
      refine va_get (ci := 5) (v := .ref a_told_need) (C := RX5) (T := TX5) (N := 10) hx hb hts in_X9_dueBits_X5 hown hK hw.1 0 rfl rfl 9 (by decide) (hts _ lk_X9_dueBits_2) (fun _ h9 => h9) rfl dX9_dueBits_59 ?_
      refine lv_iload hx hb dX9_dueBits_62 (lv_at hl 3 rfl) ?_
      obtain ⟨hc_3, hf⟩ := gd_some hf
      refine va_iald hx hb hK hw.1 2 0 rfl rfl (inB_in hc_3) dX9_dueBits_64 ?_
      refine lv_icmp_lt (tgt := 75) hx hb dX9_dueBits_65 (by decide) (fun hc => ?_) (fun hc => ?_)
      · have hf := (if_pos hc).symm.trans hf
        exact q_X9_dueBits_75 C K a_told a_told_house a_told_free a_told_stuffed a_told_after a_told_weight a_told_need a_S a_S_cells a_laws told_gloves told_matters told_pride told_coins told_house told_need S_cells r0 k32 hk32 v2 v3 v4 hf hw (lv_sub hl [0, 1, 2, 3] rfl)
      · have hf := (if_neg hc).symm.trans hf
        refine lv_iload_n hx hb dX9_dueBits_68 rfl (lv_at hl 2 rfl) ?_
        refine lv_iconst (v := (1 : Int32)) hx hb dX9_dueBits_69 (by decide) ?_
        refine lv_iload hx hb dX9_dueBits_70 (lv_at hl 3 rfl) ?_
        refine lv_ishl hx hb dX9_dueBits_72 ?_
        refine lv_ior hx hb dX9_dueBits_73 ?_
        obtain ⟨v3_4, e_v3_4, hf⟩ := bnd_some hf
        refine lv_nmi e_v3_4 ?_
        refine lv_istore_n (lv' := [(3, .int v3_4), (0, .ref a_S), (2, .int v2), (4, .int v4)]) hx hb dX9_dueBits_74 rfl hl (by decide) rfl (fun ls hl => ?_)
        exact q_X9_dueBits_75 C K a_told a_told_house a_told_free a_told_stuffed a_told_after a_told_weight a_told_need a_S a_S_cells a_laws told_gloves told_matters told_pride told_coins told_house told_need S_cells r0 k32 hk32 v2 v3_4 v4 hf hw (lv_sub hl [1, 2, 0, 3] rfl)
theorem qf_X9_dueBits_32 {p : Program} {l : Launch} {e : Env} {s : State} {m : MethodId} {args : Array Value} {below : List Frame} {meth : Method} {c : Code} {sx : List sx_T} {D : va_G} {cI cZ cO : ClassId} {A : Nat → Prop} (C : Cx p s m args meth c RX9 wsX9_dueBits cX9_dueBits 5 (some .int)) (K : Kx sx D (tyL cI cZ cO) A s) (a_told : Nat) (a_told_house : Nat) (a_told_free : Nat) (a_told_stuffed : Nat) (a_told_after : Nat) (a_told_weight : Nat) (a_told_need : Nat) (a_S : Nat) (a_S_cells : Nat) (a_laws : Nat) (told_gloves : Int32) (told_matters : Int32) (told_pride : Int32) (told_coins : Int32) (told_house : Nat → Int32) (told_need : Nat → Int32) (S_cells : Nat → Int32) (r0 : Int32)    (n : Nat) : ∀ (v2 : Int32) (v3 : Int32) (v4 : Int32) (H : Heap) (locs : List Loc) (ls : Array Slot), f_X9_dueBits_32 told_gloves told_matters told_house told_need S_cells  n v2 v3 v4 = some r0 → Wo D A s [(oX5 a_told (.int told_gloves) (.int told_matters) (.int told_pride) (.int told_coins) (.ref a_told_house) (.ref a_told_free) (.ref a_told_stuffed) (.ref a_told_after) (.ref a_told_weight) (.ref a_told_need)), (a_told_house, .inl (cI, 6, .inl told_house)), (a_told_need, .inl (cI, 5, .inl told_need)), (oX9 a_S (.ref a_S_cells) (.ref a_told) (.ref a_laws)), (a_S_cells, .inl (cI, 69, .inl S_cells))] H locs → lv_has ls 5 [(0, .ref a_S), (2, .int v2), (3, .int v3), (4, .int v4)] → W p l e rm_X9_dueBits s m args below meth c H locs 0 0 (MQ below (QcI D A r0 [(oX5 a_told (.int told_gloves) (.int told_matters) (.int told_pride) (.int told_coins) (.ref a_told_house) (.ref a_told_free) (.ref a_told_stuffed) (.ref a_told_after) (.ref a_told_weight) (.ref a_told_need)), (a_told_house, .inl (cI, 6, .inl told_house)), (a_told_need, .inl (cI, 5, .inl told_need)), (oX9 a_S (.ref a_S_cells) (.ref a_told) (.ref a_laws)), (a_S_cells, .inl (cI, 69, .inl S_cells))]) args s 0 0 A) (F0 m 32 ls []) := by
  induction n with
  | zero =>
    intro v2 v3 v4 H locs ls hf
    have h9 : (none : Option (Int32)) = some r0 := hf
    cases h9
  | succ n ih =>
    intro v2 v3 v4 H locs ls hf hw hl
    exact q_X9_dueBits_32 C K a_told a_told_house a_told_free a_told_stuffed a_told_after a_told_weight a_told_need a_S a_S_cells a_laws told_gloves told_matters told_pride told_coins told_house told_need S_cells r0  (f_X9_dueBits_32 told_gloves told_matters told_house told_need S_cells  n) ih v2 v3 v4 hf hw hl
set_option maxHeartbeats 4000000 in
set_option maxRecDepth 100000 in
theorem q_X9_dueBits_26 {p : Program} {l : Launch} {e : Env} {s : State} {m : MethodId} {args : Array Value} {below : List Frame} {meth : Method} {c : Code} {sx : List sx_T} {D : va_G} {cI cZ cO : ClassId} {A : Nat → Prop} (C : Cx p s m args meth c RX9 wsX9_dueBits cX9_dueBits 5 (some .int)) (K : Kx sx D (tyL cI cZ cO) A s) (a_told : Nat) (a_told_house : Nat) (a_told_free : Nat) (a_told_stuffed : Nat) (a_told_after : Nat) (a_told_weight : Nat) (a_told_need : Nat) (a_S : Nat) (a_S_cells : Nat) (a_laws : Nat) (told_gloves : Int32) (told_matters : Int32) (told_pride : Int32) (told_coins : Int32) (told_house : Nat → Int32) (told_need : Nat → Int32) (S_cells : Nat → Int32) (r0 : Int32)    (t0 : Int32) {H : Heap} {locs : List Loc} {ls : Array Slot} (hf : b_X9_dueBits_26 told_gloves told_matters told_house told_need S_cells  t0 = some r0) (hw : Wo D A s [(oX5 a_told (.int told_gloves) (.int told_matters) (.int told_pride) (.int told_coins) (.ref a_told_house) (.ref a_told_free) (.ref a_told_stuffed) (.ref a_told_after) (.ref a_told_weight) (.ref a_told_need)), (a_told_house, .inl (cI, 6, .inl told_house)), (a_told_need, .inl (cI, 5, .inl told_need)), (oX9 a_S (.ref a_S_cells) (.ref a_told) (.ref a_laws)), (a_S_cells, .inl (cI, 69, .inl S_cells))] H locs) (hl : lv_has ls 5 [(0, .ref a_S)]) : W p l e rm_X9_dueBits s m args below meth c H locs 0 0 (MQ below (QcI D A r0 [(oX5 a_told (.int told_gloves) (.int told_matters) (.int told_pride) (.int told_coins) (.ref a_told_house) (.ref a_told_free) (.ref a_told_stuffed) (.ref a_told_after) (.ref a_told_weight) (.ref a_told_need)), (a_told_house, .inl (cI, 6, .inl told_house)), (a_told_need, .inl (cI, 5, .inl told_need)), (oX9 a_S (.ref a_S_cells) (.ref a_told) (.ref a_laws)), (a_S_cells, .inl (cI, 69, .inl S_cells))]) args s 0 0 A) (F0 m 26 ls [.int t0]) := by
  obtain ⟨hx, hb, hml, hown, hts, hr, hlk⟩ := id C
  obtain ⟨hK, hX, hA⟩ := id K
  unfold b_X9_dueBits_26 at hf
  refine lv_istore_n (lv' := [(2, .int t0), (0, .ref a_S)]) hx hb dX9_dueBits_26 rfl hl (by decide) rfl (fun ls hl => ?_)
  refine lv_iconst (v := (0 : Int32)) hx hb dX9_dueBits_27 (by decide) ?_
  refine lv_istore_n (lv' := [(3, .int (0 : Int32)), (2, .int t0), (0, .ref a_S)]) hx hb dX9_dueBits_28 rfl hl (by decide) rfl (fun ls hl => ?_)
  refine lv_iconst (v := (0 : Int32)) hx hb dX9_dueBits_29 (by decide) ?_
  refine lv_istore (lv' := [(4, .int (0 : Int32)), (3, .int (0 : Int32)), (2, .int t0), (0, .ref a_S)]) hx hb dX9_dueBits_30 hl (by decide) rfl (fun ls hl => ?_)
  exact qf_X9_dueBits_32 C K a_told a_told_house a_told_free a_told_stuffed a_told_after a_told_weight a_told_need a_S a_S_cells a_laws told_gloves told_matters told_pride told_coins told_house told_need S_cells r0  fu t0 (0 : Int32) (0 : Int32) _ _ _ hf hw (lv_sub hl [3, 2, 1, 0] rfl)
set_option maxHeartbeats 4000000 in
set_option maxRecDepth 100000 in
theorem q_X9_dueBits_0 {p : Program} {l : Launch} {e : Env} {s : State} {m : MethodId} {args : Array Value} {below : List Frame} {meth : Method} {c : Code} {sx : List sx_T} {D : va_G} {cI cZ cO : ClassId} {A : Nat → Prop} (C : Cx p s m args meth c RX9 wsX9_dueBits cX9_dueBits 5 (some .int)) (K : Kx sx D (tyL cI cZ cO) A s) (a_told : Nat) (a_told_house : Nat) (a_told_free : Nat) (a_told_stuffed : Nat) (a_told_after : Nat) (a_told_weight : Nat) (a_told_need : Nat) (a_S : Nat) (a_S_cells : Nat) (a_laws : Nat) (told_gloves : Int32) (told_matters : Int32) (told_pride : Int32) (told_coins : Int32) (told_house : Nat → Int32) (told_need : Nat → Int32) (S_cells : Nat → Int32) (r0 : Int32)     {H : Heap} {locs : List Loc} {ls : Array Slot} (hf : b_X9_dueBits_0 told_gloves told_matters told_house told_need S_cells   = some r0) (hw : Wo D A s [(oX5 a_told (.int told_gloves) (.int told_matters) (.int told_pride) (.int told_coins) (.ref a_told_house) (.ref a_told_free) (.ref a_told_stuffed) (.ref a_told_after) (.ref a_told_weight) (.ref a_told_need)), (a_told_house, .inl (cI, 6, .inl told_house)), (a_told_need, .inl (cI, 5, .inl told_need)), (oX9 a_S (.ref a_S_cells) (.ref a_told) (.ref a_laws)), (a_S_cells, .inl (cI, 69, .inl S_cells))] H locs) (hl : lv_has ls 5 [(0, .ref a_S)]) : W p l e rm_X9_dueBits s m args below meth c H locs 0 0 (MQ below (QcI D A r0 [(oX5 a_told (.int told_gloves) (.int told_matters) (.int told_pride) (.int told_coins) (.ref a_told_house) (.ref a_told_free) (.ref a_told_stuffed) (.ref a_told_after) (.ref a_told_weight) (.ref a_told_need)), (a_told_house, .inl (cI, 6, .inl told_house)), (a_told_need, .inl (cI, 5, .inl told_need)), (oX9 a_S (.ref a_S_cells) (.ref a_told) (.ref a_laws)), (a_S_cells, .inl (cI, 69, .inl S_cells))]) args s 0 0 A) (F0 m 0 ls []) := by
  obtain ⟨hx, hb, hml, hown, hts, hr, hlk⟩ := id C
  obtain ⟨hK, hX, hA⟩ := id K
  unfold b_X9_dueBits_0 at hf
  refine lv_aload_n hx hb dX9_dueBits_0 rfl (lv_at hl 0 rfl) ?_
  obtain ⟨r_1, hg_2, hf⟩ := ob1_some hf
  refine cl_ViA (As := []) (rest := []) C K hw (k_X9_warmestPair a_told a_told_house a_told_free a_told_stuffed a_told_after a_told_weight a_told_need a_S a_S_cells a_laws told_gloves told_matters told_pride told_coins told_house S_cells r_1 hg_2) [0, 1, 3, 4] rfl (by decide) rfl rfl (ci := 9) (j := 3) rfl rfl (cwV 0 hts gX9_dueBits_X9_warmestPair rfl rfl rfl (by decide +kernel) ⟨Nat.le_of_ble_eq_true rfl, Nat.le_of_ble_eq_true rfl⟩) rfl hl rfl (Nat.le_of_ble_eq_true rfl) dX9_dueBits_1 ⟨Nat.zero_le _, Nat.zero_le _⟩ (fun H locs hw => ?_)
  have hw : Wo D A s [(oX5 a_told (.int told_gloves) (.int told_matters) (.int told_pride) (.int told_coins) (.ref a_told_house) (.ref a_told_free) (.ref a_told_stuffed) (.ref a_told_after) (.ref a_told_weight) (.ref a_told_need)), (a_told_house, .inl (cI, 6, .inl told_house)), (a_told_need, .inl (cI, 5, .inl told_need)), (oX9 a_S (.ref a_S_cells) (.ref a_told) (.ref a_laws)), (a_S_cells, .inl (cI, 69, .inl S_cells))] H locs := hw
  refine lv_istore_n (lv' := [(1, .int r_1), (0, .ref a_S)]) hx hb dX9_dueBits_4 rfl hl (by decide) rfl (fun ls hl => ?_)
  refine lv_iload_n hx hb dX9_dueBits_5 rfl (lv_at hl 0 rfl) ?_
  refine lv_iconst (v := (-1 : Int32)) hx hb dX9_dueBits_6 (by decide) ?_
  refine lv_icmp_ne (tgt := 14) hx hb dX9_dueBits_7 (by decide) (fun hc => ?_) (fun hc => ?_)
  · have hf := (if_neg hc).symm.trans hf
    refine lv_aload_n hx hb dX9_dueBits_14 rfl (lv_at hl 1 rfl) ?_
    refine lv_iload_n hx hb dX9_dueBits_15 rfl (lv_at hl 0 rfl) ?_
    refine lv_bipush (v := (10 : Int32)) hx hb dX9_dueBits_16 (by decide) ?_
    refine lv_idiv hx hb dX9_dueBits_18 (by decide) ?_
    refine lv_iload_n hx hb dX9_dueBits_19 rfl (lv_at hl 0 rfl) ?_
    refine lv_bipush (v := (10 : Int32)) hx hb dX9_dueBits_20 (by decide) ?_
    refine lv_irem hx hb dX9_dueBits_22 (by decide) ?_
    obtain ⟨n_3, e_n_3, hf⟩ := bnd_some hf
    refine lv_nmi e_n_3 ?_
    obtain ⟨r_4, hg_5, hf⟩ := ob1_some hf
    refine cl_ViA (As := [.int (r_1 / (10 : Int32)), .int n_3]) (rest := []) C K hw (k_X9_warmthOf a_S a_S_cells a_told a_laws S_cells r_4 (r_1 / (10 : Int32)) n_3 hg_5) [3, 4] rfl (by decide) rfl rfl (ci := 9) (j := 3) rfl rfl (cwV 2 hts gX9_dueBits_X9_warmthOf rfl rfl rfl (by decide +kernel) ⟨Nat.le_of_ble_eq_true rfl, Nat.le_of_ble_eq_true rfl⟩) rfl hl rfl (Nat.le_of_ble_eq_true rfl) dX9_dueBits_23 ⟨Nat.zero_le _, Nat.zero_le _⟩ (fun H locs hw => ?_)
    have hw : Wo D A s [(oX5 a_told (.int told_gloves) (.int told_matters) (.int told_pride) (.int told_coins) (.ref a_told_house) (.ref a_told_free) (.ref a_told_stuffed) (.ref a_told_after) (.ref a_told_weight) (.ref a_told_need)), (a_told_house, .inl (cI, 6, .inl told_house)), (a_told_need, .inl (cI, 5, .inl told_need)), (oX9 a_S (.ref a_S_cells) (.ref a_told) (.ref a_laws)), (a_S_cells, .inl (cI, 69, .inl S_cells))] H locs := hw
    exact q_X9_dueBits_26 C K a_told a_told_house a_told_free a_told_stuffed a_told_after a_told_weight a_told_need a_S a_S_cells a_laws told_gloves told_matters told_pride told_coins told_house told_need S_cells r0  r_4 hf hw (lv_sub hl [1] rfl)
  · have hf := (if_pos hc).symm.trans hf
    refine lv_iconst (v := (-1 : Int32)) hx hb dX9_dueBits_10 (by decide) ?_
    refine lv_goto (tgt := 26) hx hb dX9_dueBits_11 (by decide) ?_
    exact q_X9_dueBits_26 C K a_told a_told_house a_told_free a_told_stuffed a_told_after a_told_weight a_told_need a_S a_S_cells a_laws told_gloves told_matters told_pride told_coins told_house told_need S_cells r0  (-1 : Int32) hf hw (lv_sub hl [1] rfl)
set_option maxHeartbeats 4000000 in
set_option maxRecDepth 100000 in
theorem k_X9_dueBits {l : Launch} {sx : List sx_T} {D : va_G} {cI cZ cO : ClassId} (a_told : Nat) (a_told_house : Nat) (a_told_free : Nat) (a_told_stuffed : Nat) (a_told_after : Nat) (a_told_weight : Nat) (a_told_need : Nat) (a_S : Nat) (a_S_cells : Nat) (a_laws : Nat) (told_gloves : Int32) (told_matters : Int32) (told_pride : Int32) (told_coins : Int32) (told_house : Nat → Int32) (told_need : Nat → Int32) (S_cells : Nat → Int32) (r0 : Int32) (hF : f_X9_dueBits told_gloves told_matters told_house told_need S_cells = some r0) : CtI l yX9_dueBits wsX9_dueBits rm_X9_dueBits sx D (tyL cI cZ cO) [.ref a_S] [(oX5 a_told (.int told_gloves) (.int told_matters) (.int told_pride) (.int told_coins) (.ref a_told_house) (.ref a_told_free) (.ref a_told_stuffed) (.ref a_told_after) (.ref a_told_weight) (.ref a_told_need)), (a_told_house, .inl (cI, 6, .inl told_house)), (a_told_need, .inl (cI, 5, .inl told_need)), (oX9 a_S (.ref a_S_cells) (.ref a_told) (.ref a_laws)), (a_S_cells, .inl (cI, 69, .inl S_cells))] r0 [(oX5 a_told (.int told_gloves) (.int told_matters) (.int told_pride) (.int told_coins) (.ref a_told_house) (.ref a_told_free) (.ref a_told_stuffed) (.ref a_told_after) (.ref a_told_weight) (.ref a_told_need)), (a_told_house, .inl (cI, 6, .inl told_house)), (a_told_need, .inl (cI, 5, .inl told_need)), (oX9 a_S (.ref a_S_cells) (.ref a_told) (.ref a_laws)), (a_S_cells, .inl (cI, 69, .inl S_cells))] := by
  refine ctI_of (cc := cX9_dueBits) (ret := (some .int)) (maxL := 5) (by decide) rfl (Nat.le_of_ble_eq_true rfl) ?_
  intro p e s m below meth c A ls C K hw hl
  exact q_X9_dueBits_0 C K a_told a_told_house a_told_free a_told_stuffed a_told_after a_told_weight a_told_need a_S a_S_cells a_laws told_gloves told_matters told_pride told_coins told_house told_need S_cells r0  hF hw (lv_sub hl [0] rfl)
