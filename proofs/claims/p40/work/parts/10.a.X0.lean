section
abbrev rm_X0_forget : Room := { frames := 0, cells := 0, slots := 0, locals := 0 }
theorem in_X0_forget_X0 : ∀ w ∈ u_ws RX0 TX0 3, w ∈ wsX0_forget := fun w h => List.mem_cons_of_mem _ (bi_wsX00 w h)
theorem lk_X0_forget_0 : Cond.fieldLink RX0 28 "GloveHouses$Acts" "size" "I" ∈ wsX0_forget := List.mem_cons_of_mem _ (bi_wsL_law0_r21 _ (List.mem_of_getElem? (i := 9) rfl))
set_option maxHeartbeats 4000000 in
set_option maxRecDepth 100000 in
theorem q_X0_forget_0 {p : Program} {l : Launch} {e : Env} {s : State} {m : MethodId} {args : Array Value} {below : List Frame} {meth : Method} {c : Code} {sx : List sx_T} {D : va_G} {cI cZ cO : ClassId} {A : Nat → Prop} (C : Cx p s m args meth c RX0 wsX0_forget cX0_forget 1 none) (K : Kx sx D (tyL cI cZ cO) A s) (a_acts : Nat) (a_acts_rows : Nat) (acts_next : Int32) (o_acts_size : Int32)    (acts_size : Int32) {H : Heap} {locs : List Loc} {ls : Array Slot} (hf : b_X0_forget_0   acts_size = some o_acts_size) (hw : Wo D A s [(oX0 a_acts (.int acts_size) (.int acts_next) (.ref a_acts_rows))] H locs) (hl : lv_has ls 1 [(0, .ref a_acts)]) : W p l e rm_X0_forget s m args below meth c H locs 0 0 (MQ below (QcV D A [(oX0 a_acts (.int o_acts_size) (.int acts_next) (.ref a_acts_rows))]) args s 0 0 A) (F0 m 0 ls []) := by
  obtain ⟨hx, hb, hml, hown, hts, hr, hlk⟩ := id C
  obtain ⟨hK, hX, hA⟩ := id K
  unfold b_X0_forget_0 at hf
  refine lv_aload_n hx hb dX0_forget_0 rfl (lv_at hl 0 rfl) ?_
  refine lv_iconst (v := (0 : Int32)) hx hb dX0_forget_1 (by decide) ?_
  refine va_put (ci := 0) (v := .int (0 : Int32)) (ty := .int) (C := RX0) (T := TX0) (N := 3) hx hb hts in_X0_forget_X0 tyX0 tyX0_ok nmX0 hown hK hw.1 hw.2.1 hw.2.2 0 rfl rfl 0 (by decide) (hts _ lk_X0_forget_0) (fun _ h9 => h9) rfl (by decide +kernel) rfl rfl (Nat.le_of_ble_eq_true rfl) dX0_forget_2 (fun H locs hP hD hS => ?_)
  have hw : Wo D A s [(oX0 a_acts (.int (0 : Int32)) (.int acts_next) (.ref a_acts_rows))] H locs := ⟨hP, hD, hS⟩
  cases hf
  exact retV C hw dX0_forget_5
set_option maxHeartbeats 4000000 in
set_option maxRecDepth 100000 in
theorem k_X0_forget {l : Launch} {sx : List sx_T} {D : va_G} {cI cZ cO : ClassId} (a_acts : Nat) (a_acts_rows : Nat) (acts_next : Int32) (o_acts_size : Int32) (acts_size : Int32) (hF : f_X0_forget acts_size = some o_acts_size) : CtV l yX0_forget wsX0_forget rm_X0_forget sx D (tyL cI cZ cO) [.ref a_acts] [(oX0 a_acts (.int acts_size) (.int acts_next) (.ref a_acts_rows))] [(oX0 a_acts (.int o_acts_size) (.int acts_next) (.ref a_acts_rows))] := by
  refine ctV_of (cc := cX0_forget) (ret := none) (maxL := 1) (by decide) rfl (Nat.le_of_ble_eq_true rfl) ?_
  intro p e s m below meth c A ls C K hw hl
  exact q_X0_forget_0 C K a_acts a_acts_rows acts_next o_acts_size acts_size hF hw (lv_sub hl [0] rfl)
abbrev rm_X0_keep : Room := { frames := 1, cells := 0, slots := 0, locals := 26 }
theorem in_X0_keep_X9 : ∀ w ∈ u_ws RX9 TX9 3, w ∈ wsX0_keep := fun w h => List.mem_cons_of_mem _ (bi_wsX90 w h)
theorem in_X0_keep_X0 : ∀ w ∈ u_ws RX0 TX0 3, w ∈ wsX0_keep := fun w h => List.mem_cons_of_mem _ (bi_wsX00 w h)
theorem lk_X0_keep_0 : Cond.fieldLink RX0 15 "GloveHouses$State" "cells" "[I" ∈ wsX0_keep := List.mem_cons_of_mem _ (bi_wsL_law0_r28 _ (List.mem_of_getElem? (i := 21) rfl))
theorem lk_X0_keep_1 : Cond.fieldLink RX0 11 "GloveHouses$Acts" "rows" "[I" ∈ wsX0_keep := List.mem_cons_of_mem _ (bi_wsL_law0_r5 _ (List.mem_of_getElem? (i := 21) rfl))
theorem lk_X0_keep_2 : Cond.fieldLink RX0 18 "GloveHouses$Acts" "next" "I" ∈ wsX0_keep := List.mem_cons_of_mem _ (bi_wsL_law0_r28 _ (List.mem_of_getElem? (i := 22) rfl))
theorem lk_X0_keep_3 : Cond.methodLink RX0 22 arraycopyName ∈ wsX0_keep := List.mem_cons_of_mem _ (bi_wsL_law0_r28 _ (List.mem_of_getElem? (i := 23) rfl))
theorem lk_X0_keep_4 : Cond.native arraycopyName ∈ wsX0_keep := List.mem_cons_of_mem _ (bi_wsL_law0_r10 _ (List.mem_of_getElem? (i := 21) rfl))
theorem lk_X0_keep_5 : Cond.static arraycopyName ∈ wsX0_keep := List.mem_cons_of_mem _ (bi_wsL_law0_r10 _ (List.mem_of_getElem? (i := 22) rfl))
theorem lk_X0_keep_6 : Cond.initialized "java/lang/System" ∈ wsX0_keep := List.mem_cons_of_mem _ (bi_wsL_law0_r10 _ (List.mem_of_getElem? (i := 23) rfl))
theorem lk_X0_keep_7 : Cond.fieldLink RX0 28 "GloveHouses$Acts" "size" "I" ∈ wsX0_keep := List.mem_cons_of_mem _ (bi_wsL_law0_r21 _ (List.mem_of_getElem? (i := 9) rfl))
theorem lk_X0_keep_8 : Cond.methodLink RX0 31 Lib.Math.min.name ∈ wsX0_keep := List.mem_cons_of_mem _ (bi_wsL_law0_r29 _ (List.mem_of_getElem? (i := 0) rfl))
theorem lk_X0_keep_9 : Cond.static Lib.Math.min.name ∈ wsX0_keep := List.mem_cons_of_mem _ (bi_wsL_law0_r27 _ (List.mem_of_getElem? (i := 18) rfl))
theorem lk_X0_keep_10 : Cond.initialized "java/lang/Math" ∈ wsX0_keep := List.mem_cons_of_mem _ (bi_wsL_law0_r27 _ (List.mem_of_getElem? (i := 19) rfl))
theorem lk_X0_keep_11 : Cond.code Lib.Math.min.name Lib.Math.min.code 2 (some .int) ∈ wsX0_keep := List.mem_cons_of_mem _ (bi_wsL_law0_r27 _ (List.mem_of_getElem? (i := 20) rfl))
set_option maxHeartbeats 4000000 in
set_option maxRecDepth 100000 in
theorem q_X0_keep_0 {p : Program} {l : Launch} {e : Env} {s : State} {m : MethodId} {args : Array Value} {below : List Frame} {meth : Method} {c : Code} {sx : List sx_T} {D : va_G} {cI cZ cO : ClassId} {A : Nat → Prop} (C : Cx p s m args meth c RX0 wsX0_keep cX0_keep 2 none) (K : Kx sx D (tyL cI cZ cO) A s) (a_S : Nat) (a_S_cells : Nat) (a_told : Nat) (a_laws : Nat) (a_acts : Nat) (a_acts_rows : Nat) (S_cells : Nat → Int32) (o_acts_size : Int32) (o_acts_next : Int32) (o_acts_rows : Nat → Int32)    (acts_size : Int32) (acts_next : Int32) (acts_rows : Nat → Int32) {H : Heap} {locs : List Loc} {ls : Array Slot} (hf : b_X0_keep_0 S_cells  acts_size acts_next acts_rows = some (o_acts_size, o_acts_next, o_acts_rows)) (hw : Wo D A s [(oX9 a_S (.ref a_S_cells) (.ref a_told) (.ref a_laws)), (a_S_cells, .inl (cI, 69, .inl S_cells)), (oX0 a_acts (.int acts_size) (.int acts_next) (.ref a_acts_rows)), (a_acts_rows, .inl (cI, 2760, .inl acts_rows))] H locs) (hl : lv_has ls 2 [(0, .ref a_acts), (1, .ref a_S)]) : W p l e rm_X0_keep s m args below meth c H locs 0 0 (MQ below (QcV D A [(oX9 a_S (.ref a_S_cells) (.ref a_told) (.ref a_laws)), (a_S_cells, .inl (cI, 69, .inl S_cells)), (oX0 a_acts (.int o_acts_size) (.int o_acts_next) (.ref a_acts_rows)), (a_acts_rows, .inl (cI, 2760, .inl o_acts_rows))]) args s 0 0 A) (F0 m 0 ls []) := by
  obtain ⟨hx, hb, hml, hown, hts, hr, hlk⟩ := id C
  obtain ⟨hK, hX, hA⟩ := id K
  unfold b_X0_keep_0 at hf
  refine lv_aload_n hx hb dX0_keep_0 rfl (lv_at hl 1 rfl) ?_
  refine va_get (ci := 9) (v := .ref a_S_cells) (C := RX9) (T := TX9) (N := 3) hx hb hts in_X0_keep_X9 hown hK hw.1 0 rfl rfl 0 (by decide) (hts _ lk_X0_keep_0) (fun _ h9 => h9) rfl dX0_keep_1 ?_
  refine lv_iconst (v := (0 : Int32)) hx hb dX0_keep_4 (by decide) ?_
  refine lv_aload_n hx hb dX0_keep_5 rfl (lv_at hl 0 rfl) ?_
  refine va_get (ci := 0) (v := .ref a_acts_rows) (C := RX0) (T := TX0) (N := 3) hx hb hts in_X0_keep_X0 hown hK hw.1 2 rfl rfl 2 (by decide) (hts _ lk_X0_keep_1) (fun _ h9 => h9) rfl dX0_keep_6 ?_
  refine lv_aload_n hx hb dX0_keep_9 rfl (lv_at hl 0 rfl) ?_
  refine va_get (ci := 0) (v := .int acts_next) (C := RX0) (T := TX0) (N := 3) hx hb hts in_X0_keep_X0 hown hK hw.1 2 rfl rfl 1 (by decide) (hts _ lk_X0_keep_2) (fun _ h9 => h9) rfl dX0_keep_10 ?_
  refine lv_bipush (v := (69 : Int32)) hx hb dX0_keep_13 (by decide) ?_
  refine lv_imul hx hb dX0_keep_15 ?_
  refine lv_bipush (v := (69 : Int32)) hx hb dX0_keep_16 (by decide) ?_
  obtain ⟨hc_1, hf⟩ := gd_some hf
  obtain ⟨hc_2, hf⟩ := gd_some hf
  obtain ⟨acts_rows_3, e_acts_rows_3, hf⟩ := bnd_some hf
  refine va_copyi hx hb (hml.trans hl.1.symm) hown (hts _ lk_X0_keep_3) (hts _ lk_X0_keep_4) (hts _ lk_X0_keep_5) (hts _ lk_X0_keep_6) hK hw.1 hw.2.1 hw.2.2 1 3 0 0 rfl rfl rfl rfl rfl (spB_sp hc_1).1 (spB_sp hc_2).1 (spB_sp hc_1).2.1 (spB_sp hc_1).2.2 (spB_sp hc_2).2.2 (fun _ _ => rfl) (Nat.le_of_ble_eq_true rfl) (Nat.le_of_ble_eq_true rfl) dX0_keep_18 (fun H locs hP hD hS => ?_)
  have hw : Wo D A s [(oX9 a_S (.ref a_S_cells) (.ref a_told) (.ref a_laws)), (a_S_cells, .inl (cI, 69, .inl S_cells)), (oX0 a_acts (.int acts_size) (.int acts_next) (.ref a_acts_rows)), (a_acts_rows, .inl (cI, 2760, .inl acts_rows_3))] H locs := by rw [e_acts_rows_3]; exact ⟨hP, hD, hS⟩
  refine lv_aload_n hx hb dX0_keep_21 rfl (lv_at hl 0 rfl) ?_
  refine lv_aload_n hx hb dX0_keep_22 rfl (lv_at hl 0 rfl) ?_
  refine va_get (ci := 0) (v := .int acts_next) (C := RX0) (T := TX0) (N := 3) hx hb hts in_X0_keep_X0 hown hK hw.1 2 rfl rfl 1 (by decide) (hts _ lk_X0_keep_2) (fun _ h9 => h9) rfl dX0_keep_23 ?_
  refine lv_iconst (v := (1 : Int32)) hx hb dX0_keep_26 (by decide) ?_
  refine lv_iadd hx hb dX0_keep_27 ?_
  refine lv_bipush (v := (40 : Int32)) hx hb dX0_keep_28 (by decide) ?_
  refine lv_irem hx hb dX0_keep_30 (by decide) ?_
  obtain ⟨n_4, e_n_4, hf⟩ := bnd_some hf
  refine lv_nmi e_n_4 ?_
  refine va_put (ci := 0) (v := .int n_4) (ty := .int) (C := RX0) (T := TX0) (N := 3) hx hb hts in_X0_keep_X0 tyX0 tyX0_ok nmX0 hown hK hw.1 hw.2.1 hw.2.2 2 rfl rfl 1 (by decide) (hts _ lk_X0_keep_2) (fun _ h9 => h9) rfl (by decide +kernel) rfl rfl (Nat.le_of_ble_eq_true rfl) dX0_keep_31 (fun H locs hP hD hS => ?_)
  have hw : Wo D A s [(oX9 a_S (.ref a_S_cells) (.ref a_told) (.ref a_laws)), (a_S_cells, .inl (cI, 69, .inl S_cells)), (oX0 a_acts (.int acts_size) (.int n_4) (.ref a_acts_rows)), (a_acts_rows, .inl (cI, 2760, .inl acts_rows_3))] H locs := ⟨hP, hD, hS⟩
  refine lv_aload_n hx hb dX0_keep_34 rfl (lv_at hl 0 rfl) ?_
  refine lv_bipush (v := (40 : Int32)) hx hb dX0_keep_35 (by decide) ?_
  refine lv_aload_n hx hb dX0_keep_37 rfl (lv_at hl 0 rfl) ?_
  refine va_get (ci := 0) (v := .int acts_size) (C := RX0) (T := TX0) (N := 3) hx hb hts in_X0_keep_X0 hown hK hw.1 2 rfl rfl 0 (by decide) (hts _ lk_X0_keep_7) (fun _ h9 => h9) rfl dX0_keep_38 ?_
  refine lv_iconst (v := (1 : Int32)) hx hb dX0_keep_41 (by decide) ?_
  refine lv_iadd hx hb dX0_keep_42 ?_
  refine va_mmin hx hb (hml.trans hl.1.symm) hown (hts _ lk_X0_keep_8) (hts _ lk_X0_keep_9) (hts _ lk_X0_keep_10) (hts _ lk_X0_keep_11) (Nat.le_of_ble_eq_true rfl) (Nat.le_of_ble_eq_true rfl) (Nat.zero_le _) (Nat.zero_le _) dX0_keep_43 ?_
  obtain ⟨n_5, e_n_5, hf⟩ := bnd_some hf
  refine lv_nmi e_n_5 ?_
  refine va_put (ci := 0) (v := .int n_5) (ty := .int) (C := RX0) (T := TX0) (N := 3) hx hb hts in_X0_keep_X0 tyX0 tyX0_ok nmX0 hown hK hw.1 hw.2.1 hw.2.2 2 rfl rfl 0 (by decide) (hts _ lk_X0_keep_7) (fun _ h9 => h9) rfl (by decide +kernel) rfl rfl (Nat.le_of_ble_eq_true rfl) dX0_keep_46 (fun H locs hP hD hS => ?_)
  have hw : Wo D A s [(oX9 a_S (.ref a_S_cells) (.ref a_told) (.ref a_laws)), (a_S_cells, .inl (cI, 69, .inl S_cells)), (oX0 a_acts (.int n_5) (.int n_4) (.ref a_acts_rows)), (a_acts_rows, .inl (cI, 2760, .inl acts_rows_3))] H locs := ⟨hP, hD, hS⟩
  cases hf
  exact retV C hw dX0_keep_49
set_option maxHeartbeats 4000000 in
set_option maxRecDepth 100000 in
theorem k_X0_keep {l : Launch} {sx : List sx_T} {D : va_G} {cI cZ cO : ClassId} (a_S : Nat) (a_S_cells : Nat) (a_told : Nat) (a_laws : Nat) (a_acts : Nat) (a_acts_rows : Nat) (S_cells : Nat → Int32) (o_acts_size : Int32) (o_acts_next : Int32) (o_acts_rows : Nat → Int32) (acts_size : Int32) (acts_next : Int32) (acts_rows : Nat → Int32) (hF : f_X0_keep S_cells acts_size acts_next acts_rows = some (o_acts_size, o_acts_next, o_acts_rows)) : CtV l yX0_keep wsX0_keep rm_X0_keep sx D (tyL cI cZ cO) [.ref a_acts, .ref a_S] [(oX9 a_S (.ref a_S_cells) (.ref a_told) (.ref a_laws)), (a_S_cells, .inl (cI, 69, .inl S_cells)), (oX0 a_acts (.int acts_size) (.int acts_next) (.ref a_acts_rows)), (a_acts_rows, .inl (cI, 2760, .inl acts_rows))] [(oX9 a_S (.ref a_S_cells) (.ref a_told) (.ref a_laws)), (a_S_cells, .inl (cI, 69, .inl S_cells)), (oX0 a_acts (.int o_acts_size) (.int o_acts_next) (.ref a_acts_rows)), (a_acts_rows, .inl (cI, 2760, .inl o_acts_rows))] := by
  refine ctV_of (cc := cX0_keep) (ret := none) (maxL := 2) (by decide) rfl (Nat.le_of_ble_eq_true rfl) ?_
  intro p e s m below meth c A ls C K hw hl
  exact q_X0_keep_0 C K a_S a_S_cells a_told a_laws a_acts a_acts_rows S_cells o_acts_size o_acts_next o_acts_rows acts_size acts_next acts_rows hF hw (lv_sub hl [0, 1] rfl)
abbrev rm_X0_takeBack : Room := { frames := 1, cells := 0, slots := 0, locals := 26 }
theorem in_X0_takeBack_X0 : ∀ w ∈ u_ws RX0 TX0 3, w ∈ wsX0_takeBack := fun w h => List.mem_cons_of_mem _ (bi_wsX00 w h)
theorem in_X0_takeBack_X9 : ∀ w ∈ u_ws RX9 TX9 3, w ∈ wsX0_takeBack := fun w h => List.mem_cons_of_mem _ (bi_wsX90 w h)
theorem lk_X0_takeBack_0 : Cond.fieldLink RX0 18 "GloveHouses$Acts" "next" "I" ∈ wsX0_takeBack := List.mem_cons_of_mem _ (bi_wsL_law0_r28 _ (List.mem_of_getElem? (i := 22) rfl))
theorem lk_X0_takeBack_1 : Cond.fieldLink RX0 28 "GloveHouses$Acts" "size" "I" ∈ wsX0_takeBack := List.mem_cons_of_mem _ (bi_wsL_law0_r21 _ (List.mem_of_getElem? (i := 9) rfl))
theorem lk_X0_takeBack_2 : Cond.fieldLink RX0 11 "GloveHouses$Acts" "rows" "[I" ∈ wsX0_takeBack := List.mem_cons_of_mem _ (bi_wsL_law0_r5 _ (List.mem_of_getElem? (i := 21) rfl))
theorem lk_X0_takeBack_3 : Cond.fieldLink RX0 15 "GloveHouses$State" "cells" "[I" ∈ wsX0_takeBack := List.mem_cons_of_mem _ (bi_wsL_law0_r28 _ (List.mem_of_getElem? (i := 21) rfl))
theorem lk_X0_takeBack_4 : Cond.methodLink RX0 22 arraycopyName ∈ wsX0_takeBack := List.mem_cons_of_mem _ (bi_wsL_law0_r28 _ (List.mem_of_getElem? (i := 23) rfl))
theorem lk_X0_takeBack_5 : Cond.native arraycopyName ∈ wsX0_takeBack := List.mem_cons_of_mem _ (bi_wsL_law0_r10 _ (List.mem_of_getElem? (i := 21) rfl))
theorem lk_X0_takeBack_6 : Cond.static arraycopyName ∈ wsX0_takeBack := List.mem_cons_of_mem _ (bi_wsL_law0_r10 _ (List.mem_of_getElem? (i := 22) rfl))
theorem lk_X0_takeBack_7 : Cond.initialized "java/lang/System" ∈ wsX0_takeBack := List.mem_cons_of_mem _ (bi_wsL_law0_r10 _ (List.mem_of_getElem? (i := 23) rfl))
set_option maxHeartbeats 4000000 in
set_option maxRecDepth 100000 in
theorem q_X0_takeBack_0 {p : Program} {l : Launch} {e : Env} {s : State} {m : MethodId} {args : Array Value} {below : List Frame} {meth : Method} {c : Code} {sx : List sx_T} {D : va_G} {cI cZ cO : ClassId} {A : Nat → Prop} (C : Cx p s m args meth c RX0 wsX0_takeBack cX0_takeBack 2 none) (K : Kx sx D (tyL cI cZ cO) A s) (a_S : Nat) (a_S_cells : Nat) (a_told : Nat) (a_laws : Nat) (a_acts : Nat) (a_acts_rows : Nat) (acts_rows : Nat → Int32) (o_S_cells : Nat → Int32) (o_acts_size : Int32) (o_acts_next : Int32)    (S_cells : Nat → Int32) (acts_size : Int32) (acts_next : Int32) {H : Heap} {locs : List Loc} {ls : Array Slot} (hf : b_X0_takeBack_0 acts_rows  S_cells acts_size acts_next = some (o_S_cells, o_acts_size, o_acts_next)) (hw : Wo D A s [(oX9 a_S (.ref a_S_cells) (.ref a_told) (.ref a_laws)), (a_S_cells, .inl (cI, 69, .inl S_cells)), (oX0 a_acts (.int acts_size) (.int acts_next) (.ref a_acts_rows)), (a_acts_rows, .inl (cI, 2760, .inl acts_rows))] H locs) (hl : lv_has ls 2 [(0, .ref a_acts), (1, .ref a_S)]) : W p l e rm_X0_takeBack s m args below meth c H locs 0 0 (MQ below (QcV D A [(oX9 a_S (.ref a_S_cells) (.ref a_told) (.ref a_laws)), (a_S_cells, .inl (cI, 69, .inl o_S_cells)), (oX0 a_acts (.int o_acts_size) (.int o_acts_next) (.ref a_acts_rows)), (a_acts_rows, .inl (cI, 2760, .inl acts_rows))]) args s 0 0 A) (F0 m 0 ls []) := by
  obtain ⟨hx, hb, hml, hown, hts, hr, hlk⟩ := id C
  obtain ⟨hK, hX, hA⟩ := id K
  unfold b_X0_takeBack_0 at hf
  refine lv_aload_n hx hb dX0_takeBack_0 rfl (lv_at hl 0 rfl) ?_
  refine lv_aload_n hx hb dX0_takeBack_1 rfl (lv_at hl 0 rfl) ?_
  refine va_get (ci := 0) (v := .int acts_next) (C := RX0) (T := TX0) (N := 3) hx hb hts in_X0_takeBack_X0 hown hK hw.1 2 rfl rfl 1 (by decide) (hts _ lk_X0_takeBack_0) (fun _ h9 => h9) rfl dX0_takeBack_2 ?_
  refine lv_bipush (v := (40 : Int32)) hx hb dX0_takeBack_5 (by decide) ?_
  refine lv_iadd hx hb dX0_takeBack_7 ?_
  refine lv_iconst (v := (1 : Int32)) hx hb dX0_takeBack_8 (by decide) ?_
  refine lv_isub hx hb dX0_takeBack_9 ?_
  refine lv_bipush (v := (40 : Int32)) hx hb dX0_takeBack_10 (by decide) ?_
  refine lv_irem hx hb dX0_takeBack_12 (by decide) ?_
  obtain ⟨n_1, e_n_1, hf⟩ := bnd_some hf
  refine lv_nmi e_n_1 ?_
  refine va_put (ci := 0) (v := .int n_1) (ty := .int) (C := RX0) (T := TX0) (N := 3) hx hb hts in_X0_takeBack_X0 tyX0 tyX0_ok nmX0 hown hK hw.1 hw.2.1 hw.2.2 2 rfl rfl 1 (by decide) (hts _ lk_X0_takeBack_0) (fun _ h9 => h9) rfl (by decide +kernel) rfl rfl (Nat.le_of_ble_eq_true rfl) dX0_takeBack_13 (fun H locs hP hD hS => ?_)
  have hw : Wo D A s [(oX9 a_S (.ref a_S_cells) (.ref a_told) (.ref a_laws)), (a_S_cells, .inl (cI, 69, .inl S_cells)), (oX0 a_acts (.int acts_size) (.int n_1) (.ref a_acts_rows)), (a_acts_rows, .inl (cI, 2760, .inl acts_rows))] H locs := ⟨hP, hD, hS⟩
  refine lv_aload_n hx hb dX0_takeBack_16 rfl (lv_at hl 0 rfl) ?_
  refine lv_dup hx hb dX0_takeBack_17 rfl ?_
  refine va_get (ci := 0) (v := .int acts_size) (C := RX0) (T := TX0) (N := 3) hx hb hts in_X0_takeBack_X0 hown hK hw.1 2 rfl rfl 0 (by decide) (hts _ lk_X0_takeBack_1) (fun _ h9 => h9) rfl dX0_takeBack_18 ?_
  refine lv_iconst (v := (1 : Int32)) hx hb dX0_takeBack_21 (by decide) ?_
  refine lv_isub hx hb dX0_takeBack_22 ?_
  obtain ⟨size_2, e_size_2, hf⟩ := bnd_some hf
  refine lv_nmi e_size_2 ?_
  refine va_put (ci := 0) (v := .int size_2) (ty := .int) (C := RX0) (T := TX0) (N := 3) hx hb hts in_X0_takeBack_X0 tyX0 tyX0_ok nmX0 hown hK hw.1 hw.2.1 hw.2.2 2 rfl rfl 0 (by decide) (hts _ lk_X0_takeBack_1) (fun _ h9 => h9) rfl (by decide +kernel) rfl rfl (Nat.le_of_ble_eq_true rfl) dX0_takeBack_23 (fun H locs hP hD hS => ?_)
  have hw : Wo D A s [(oX9 a_S (.ref a_S_cells) (.ref a_told) (.ref a_laws)), (a_S_cells, .inl (cI, 69, .inl S_cells)), (oX0 a_acts (.int size_2) (.int n_1) (.ref a_acts_rows)), (a_acts_rows, .inl (cI, 2760, .inl acts_rows))] H locs := ⟨hP, hD, hS⟩
  refine lv_aload_n hx hb dX0_takeBack_26 rfl (lv_at hl 0 rfl) ?_
  refine va_get (ci := 0) (v := .ref a_acts_rows) (C := RX0) (T := TX0) (N := 3) hx hb hts in_X0_takeBack_X0 hown hK hw.1 2 rfl rfl 2 (by decide) (hts _ lk_X0_takeBack_2) (fun _ h9 => h9) rfl dX0_takeBack_27 ?_
  refine lv_aload_n hx hb dX0_takeBack_30 rfl (lv_at hl 0 rfl) ?_
  refine va_get (ci := 0) (v := .int n_1) (C := RX0) (T := TX0) (N := 3) hx hb hts in_X0_takeBack_X0 hown hK hw.1 2 rfl rfl 1 (by decide) (hts _ lk_X0_takeBack_0) (fun _ h9 => h9) rfl dX0_takeBack_31 ?_
  refine lv_bipush (v := (69 : Int32)) hx hb dX0_takeBack_34 (by decide) ?_
  refine lv_imul hx hb dX0_takeBack_36 ?_
  refine lv_aload_n hx hb dX0_takeBack_37 rfl (lv_at hl 1 rfl) ?_
  refine va_get (ci := 9) (v := .ref a_S_cells) (C := RX9) (T := TX9) (N := 3) hx hb hts in_X0_takeBack_X9 hown hK hw.1 0 rfl rfl 0 (by decide) (hts _ lk_X0_takeBack_3) (fun _ h9 => h9) rfl dX0_takeBack_38 ?_
  refine lv_iconst (v := (0 : Int32)) hx hb dX0_takeBack_41 (by decide) ?_
  refine lv_bipush (v := (69 : Int32)) hx hb dX0_takeBack_42 (by decide) ?_
  obtain ⟨hc_3, hf⟩ := gd_some hf
  obtain ⟨hc_4, hf⟩ := gd_some hf
  obtain ⟨S_cells_5, e_S_cells_5, hf⟩ := bnd_some hf
  refine va_copyi hx hb (hml.trans hl.1.symm) hown (hts _ lk_X0_takeBack_4) (hts _ lk_X0_takeBack_5) (hts _ lk_X0_takeBack_6) (hts _ lk_X0_takeBack_7) hK hw.1 hw.2.1 hw.2.2 3 1 0 0 rfl rfl rfl rfl rfl (spB_sp hc_3).1 (spB_sp hc_4).1 (spB_sp hc_3).2.1 (spB_sp hc_3).2.2 (spB_sp hc_4).2.2 (fun _ _ => rfl) (Nat.le_of_ble_eq_true rfl) (Nat.le_of_ble_eq_true rfl) dX0_takeBack_44 (fun H locs hP hD hS => ?_)
  have hw : Wo D A s [(oX9 a_S (.ref a_S_cells) (.ref a_told) (.ref a_laws)), (a_S_cells, .inl (cI, 69, .inl S_cells_5)), (oX0 a_acts (.int size_2) (.int n_1) (.ref a_acts_rows)), (a_acts_rows, .inl (cI, 2760, .inl acts_rows))] H locs := by rw [e_S_cells_5]; exact ⟨hP, hD, hS⟩
  cases hf
  exact retV C hw dX0_takeBack_47
set_option maxHeartbeats 4000000 in
set_option maxRecDepth 100000 in
theorem k_X0_takeBack {l : Launch} {sx : List sx_T} {D : va_G} {cI cZ cO : ClassId} (a_S : Nat) (a_S_cells : Nat) (a_told : Nat) (a_laws : Nat) (a_acts : Nat) (a_acts_rows : Nat) (acts_rows : Nat → Int32) (o_S_cells : Nat → Int32) (o_acts_size : Int32) (o_acts_next : Int32) (S_cells : Nat → Int32) (acts_size : Int32) (acts_next : Int32) (hF : f_X0_takeBack acts_rows S_cells acts_size acts_next = some (o_S_cells, o_acts_size, o_acts_next)) : CtV l yX0_takeBack wsX0_takeBack rm_X0_takeBack sx D (tyL cI cZ cO) [.ref a_acts, .ref a_S] [(oX9 a_S (.ref a_S_cells) (.ref a_told) (.ref a_laws)), (a_S_cells, .inl (cI, 69, .inl S_cells)), (oX0 a_acts (.int acts_size) (.int acts_next) (.ref a_acts_rows)), (a_acts_rows, .inl (cI, 2760, .inl acts_rows))] [(oX9 a_S (.ref a_S_cells) (.ref a_told) (.ref a_laws)), (a_S_cells, .inl (cI, 69, .inl o_S_cells)), (oX0 a_acts (.int o_acts_size) (.int o_acts_next) (.ref a_acts_rows)), (a_acts_rows, .inl (cI, 2760, .inl acts_rows))] := by
  refine ctV_of (cc := cX0_takeBack) (ret := none) (maxL := 2) (by decide) rfl (Nat.le_of_ble_eq_true rfl) ?_
  intro p e s m below meth c A ls C K hw hl
  exact q_X0_takeBack_0 C K a_S a_S_cells a_told a_laws a_acts a_acts_rows acts_rows o_S_cells o_acts_size o_acts_next S_cells acts_size acts_next hF hw (lv_sub hl [0, 1] rfl)
end
section
abbrev rm_X10_bytesOf : Room := { frames := 0, cells := 0, slots := 0, locals := 0 }
set_option maxHeartbeats 4000000 in
set_option maxRecDepth 100000 in
theorem q_X10_bytesOf_22 {p : Program} {l : Launch} {e : Env} {s : State} {m : MethodId} {args : Array Value} {below : List Frame} {meth : Method} {c : Code} {sx : List sx_T} {D : va_G} {cI cZ cO : ClassId} {A : Nat → Prop} (C : Cx p s m args meth c RX10 wsX10_bytesOf cX10_bytesOf 3 (some .int)) (K : Kx sx D (tyL cI cZ cO) A s) (r0 : Int32)   (k5 : Int32 → Int32 → Int32 → Option (Int32)) (hk5 : ∀ (v0 : Int32) (v1 : Int32) (v2 : Int32) (H : Heap) (locs : List Loc) (ls : Array Slot), k5 v0 v1 v2 = some r0 → Wo D A s [] H locs → lv_has ls 3 [(0, .int v0), (1, .int v1), (2, .int v2)] → W p l e rm_X10_bytesOf s m args below meth c H locs 0 0 (MQ below (QcI D A r0 []) args s 0 0 A) (F0 m 5 ls [])) (v0 : Int32) (v1 : Int32) (v2 : Int32) {H : Heap} {locs : List Loc} {ls : Array Slot} (hf : b_X10_bytesOf_22  k5 v0 v1 v2 = some r0) (hw : Wo D A s [] H locs) (hl : lv_has ls 3 [(0, .int v0), (1, .int v1), (2, .int v2)]) : W p l e rm_X10_bytesOf s m args below meth c H locs 0 0 (MQ below (QcI D A r0 []) args s 0 0 A) (F0 m 22 ls []) := by
  obtain ⟨hx, hb, hml, hown, hts, hr, hlk⟩ := id C
  obtain ⟨hK, hX, hA⟩ := id K
  unfold b_X10_bytesOf_22 at hf
  obtain ⟨v2_1, e_v2_1, hf⟩ := bnd_some hf
  refine lv_iinc (v := v2_1) (lv' := [(2, .int v2_1), (0, .int v0), (1, .int v1)]) hx hb dX10_bytesOf_22 hl (k := 2) rfl (by rw [e_v2_1]; rfl) (by decide) rfl (fun ls hl => ?_)
  refine lv_goto (tgt := 5) hx hb dX10_bytesOf_25 (by decide) ?_
  exact hk5 v0 v1 v2_1 _ _ _ hf hw (lv_sub hl [1, 2, 0] rfl)
set_option maxHeartbeats 4000000 in
set_option maxRecDepth 100000 in
theorem q_X10_bytesOf_5 {p : Program} {l : Launch} {e : Env} {s : State} {m : MethodId} {args : Array Value} {below : List Frame} {meth : Method} {c : Code} {sx : List sx_T} {D : va_G} {cI cZ cO : ClassId} {A : Nat → Prop} (C : Cx p s m args meth c RX10 wsX10_bytesOf cX10_bytesOf 3 (some .int)) (K : Kx sx D (tyL cI cZ cO) A s) (r0 : Int32)   (k5 : Int32 → Int32 → Int32 → Option (Int32)) (hk5 : ∀ (v0 : Int32) (v1 : Int32) (v2 : Int32) (H : Heap) (locs : List Loc) (ls : Array Slot), k5 v0 v1 v2 = some r0 → Wo D A s [] H locs → lv_has ls 3 [(0, .int v0), (1, .int v1), (2, .int v2)] → W p l e rm_X10_bytesOf s m args below meth c H locs 0 0 (MQ below (QcI D A r0 []) args s 0 0 A) (F0 m 5 ls [])) (v0 : Int32) (v1 : Int32) (v2 : Int32) {H : Heap} {locs : List Loc} {ls : Array Slot} (hf : b_X10_bytesOf_5  k5 v0 v1 v2 = some r0) (hw : Wo D A s [] H locs) (hl : lv_has ls 3 [(0, .int v0), (1, .int v1), (2, .int v2)]) : W p l e rm_X10_bytesOf s m args below meth c H locs 0 0 (MQ below (QcI D A r0 []) args s 0 0 A) (F0 m 5 ls []) := by
  obtain ⟨hx, hb, hml, hown, hts, hr, hlk⟩ := id C
  obtain ⟨hK, hX, hA⟩ := id K
  unfold b_X10_bytesOf_5 at hf
  refine lv_iload_n hx hb dX10_bytesOf_5 rfl (lv_at hl 2 rfl) ?_
  refine lv_if_lt (tgt := 28) hx hb dX10_bytesOf_6 (by decide) (fun hc => ?_) (fun hc => ?_)
  · have hf := (if_pos hc).symm.trans hf
    refine lv_iload_n hx hb dX10_bytesOf_28 rfl (lv_at hl 1 rfl) ?_
    clear hk5; cases hf
    exact retI C hw dX10_bytesOf_29 rfl
  · have hf := (if_neg hc).symm.trans hf
    refine lv_iload_n hx hb dX10_bytesOf_9 rfl (lv_at hl 0 rfl) ?_
    refine lv_iload_n hx hb dX10_bytesOf_10 rfl (lv_at hl 2 rfl) ?_
    refine lv_iushr (v := ushr v0 v2) hx hb dX10_bytesOf_11 rfl ?_
    refine lv_sipush (v := (255 : Int32)) hx hb dX10_bytesOf_12 (by decide) ?_
    refine lv_iand hx hb dX10_bytesOf_15 ?_
    refine lv_if_eq (tgt := 22) hx hb dX10_bytesOf_16 (by decide) (fun hc => ?_) (fun hc => ?_)
    · have hf := (if_pos hc).symm.trans hf
      exact q_X10_bytesOf_22 C K r0 k5 hk5 v0 v1 v2 hf hw (lv_sub hl [0, 1, 2] rfl)
    · have hf := (if_neg hc).symm.trans hf
      obtain ⟨v1_1, e_v1_1, hf⟩ := bnd_some hf
      refine lv_iinc (v := v1_1) (lv' := [(1, .int v1_1), (0, .int v0), (2, .int v2)]) hx hb dX10_bytesOf_19 hl (k := 1) rfl (by rw [e_v1_1]; rfl) (by decide) rfl (fun ls hl => ?_)
      exact q_X10_bytesOf_22 C K r0 k5 hk5 v0 v1_1 v2 hf hw (lv_sub hl [1, 0, 2] rfl)
theorem qf_X10_bytesOf_5 {p : Program} {l : Launch} {e : Env} {s : State} {m : MethodId} {args : Array Value} {below : List Frame} {meth : Method} {c : Code} {sx : List sx_T} {D : va_G} {cI cZ cO : ClassId} {A : Nat → Prop} (C : Cx p s m args meth c RX10 wsX10_bytesOf cX10_bytesOf 3 (some .int)) (K : Kx sx D (tyL cI cZ cO) A s) (r0 : Int32)    (n : Nat) : ∀ (v0 : Int32) (v1 : Int32) (v2 : Int32) (H : Heap) (locs : List Loc) (ls : Array Slot), f_X10_bytesOf_5   n v0 v1 v2 = some r0 → Wo D A s [] H locs → lv_has ls 3 [(0, .int v0), (1, .int v1), (2, .int v2)] → W p l e rm_X10_bytesOf s m args below meth c H locs 0 0 (MQ below (QcI D A r0 []) args s 0 0 A) (F0 m 5 ls []) := by
  induction n with
  | zero =>
    intro v0 v1 v2 H locs ls hf
    have h9 : (none : Option (Int32)) = some r0 := hf
    cases h9
  | succ n ih =>
    intro v0 v1 v2 H locs ls hf hw hl
    exact q_X10_bytesOf_5 C K r0  (f_X10_bytesOf_5   n) ih v0 v1 v2 hf hw hl
set_option maxHeartbeats 4000000 in
set_option maxRecDepth 100000 in
theorem q_X10_bytesOf_0 {p : Program} {l : Launch} {e : Env} {s : State} {m : MethodId} {args : Array Value} {below : List Frame} {meth : Method} {c : Code} {sx : List sx_T} {D : va_G} {cI cZ cO : ClassId} {A : Nat → Prop} (C : Cx p s m args meth c RX10 wsX10_bytesOf cX10_bytesOf 3 (some .int)) (K : Kx sx D (tyL cI cZ cO) A s) (r0 : Int32)    (v0 : Int32) {H : Heap} {locs : List Loc} {ls : Array Slot} (hf : b_X10_bytesOf_0   v0 = some r0) (hw : Wo D A s [] H locs) (hl : lv_has ls 3 [(0, .int v0)]) : W p l e rm_X10_bytesOf s m args below meth c H locs 0 0 (MQ below (QcI D A r0 []) args s 0 0 A) (F0 m 0 ls []) := by
  obtain ⟨hx, hb, hml, hown, hts, hr, hlk⟩ := id C
  obtain ⟨hK, hX, hA⟩ := id K
  unfold b_X10_bytesOf_0 at hf
  refine lv_iconst (v := (0 : Int32)) hx hb dX10_bytesOf_0 (by decide) ?_
  refine lv_istore_n (lv' := [(1, .int (0 : Int32)), (0, .int v0)]) hx hb dX10_bytesOf_1 rfl hl (by decide) rfl (fun ls hl => ?_)
  refine lv_bipush (v := (24 : Int32)) hx hb dX10_bytesOf_2 (by decide) ?_
  refine lv_istore_n (lv' := [(2, .int (24 : Int32)), (1, .int (0 : Int32)), (0, .int v0)]) hx hb dX10_bytesOf_4 rfl hl (by decide) rfl (fun ls hl => ?_)
  exact qf_X10_bytesOf_5 C K r0  fu v0 (0 : Int32) (24 : Int32) _ _ _ hf hw (lv_sub hl [2, 1, 0] rfl)
set_option maxHeartbeats 4000000 in
set_option maxRecDepth 100000 in
theorem k_X10_bytesOf {l : Launch} {sx : List sx_T} {D : va_G} {cI cZ cO : ClassId} (r0 : Int32) (p1 : Int32) (hF : f_X10_bytesOf p1 = some r0) : CtI l yX10_bytesOf wsX10_bytesOf rm_X10_bytesOf sx D (tyL cI cZ cO) [.int p1] [] r0 [] := by
  refine ctI_of (cc := cX10_bytesOf) (ret := (some .int)) (maxL := 3) (by decide) rfl (Nat.le_of_ble_eq_true rfl) ?_
  intro p e s m below meth c A ls C K hw hl
  exact q_X10_bytesOf_0 C K r0 p1 hF hw (lv_sub hl [0] rfl)
abbrev rm_X10_put : Room := { frames := 0, cells := 0, slots := 0, locals := 0 }
theorem in_X10_put_X10 : ∀ w ∈ u_ws RX10 TX10 3, w ∈ wsX10_put := fun w h => List.mem_cons_of_mem _ (bi_wsX100 w h)
theorem lk_X10_put_0 : Cond.fieldLink RX10 15 "GloveHouses$Tape" "length" "I" ∈ wsX10_put := List.mem_cons_of_mem _ (bi_wsL_law0_r8 _ (List.mem_of_getElem? (i := 15) rfl))
theorem lk_X10_put_1 : Cond.fieldLink RX10 9 "GloveHouses$Tape" "bytes" "[I" ∈ wsX10_put := List.mem_cons_of_mem _ (bi_wsL_law0_r3 _ (List.mem_of_getElem? (i := 21) rfl))
set_option maxHeartbeats 4000000 in
set_option maxRecDepth 100000 in
theorem q_X10_put_49 {p : Program} {l : Launch} {e : Env} {s : State} {m : MethodId} {args : Array Value} {below : List Frame} {meth : Method} {c : Code} {sx : List sx_T} {D : va_G} {cI cZ cO : ClassId} {A : Nat → Prop} (C : Cx p s m args meth c RX10 wsX10_put cX10_put 4 none) (K : Kx sx D (tyL cI cZ cO) A s) (a_tape : Nat) (a_tape_bytes : Nat) (tape_at : Int32) (o_tape_length : Int32) (o_tape_bytes : Nat → Int32)   (k3 : Int32 → (Nat → Int32) → Int32 → Int32 → Option (Int32 × (Nat → Int32))) (hk3 : ∀ (tape_length : Int32) (tape_bytes : Nat → Int32) (v1 : Int32) (v2 : Int32) (H : Heap) (locs : List Loc) (ls : Array Slot), k3 tape_length tape_bytes v1 v2 = some (o_tape_length, o_tape_bytes) → Wo D A s [(oX10 a_tape (.ref a_tape_bytes) (.int tape_length) (.int tape_at)), (a_tape_bytes, .inl (cI, 240, .inl tape_bytes))] H locs → lv_has ls 4 [(0, .ref a_tape), (1, .int v1), (2, .int v2)] → W p l e rm_X10_put s m args below meth c H locs 0 0 (MQ below (QcV D A [(oX10 a_tape (.ref a_tape_bytes) (.int o_tape_length) (.int tape_at)), (a_tape_bytes, .inl (cI, 240, .inl o_tape_bytes))]) args s 0 0 A) (F0 m 3 ls [])) (tape_length : Int32) (tape_bytes : Nat → Int32) (v1 : Int32) (v2 : Int32) {H : Heap} {locs : List Loc} {ls : Array Slot} (hf : b_X10_put_49  k3 tape_length tape_bytes v1 v2 = some (o_tape_length, o_tape_bytes)) (hw : Wo D A s [(oX10 a_tape (.ref a_tape_bytes) (.int tape_length) (.int tape_at)), (a_tape_bytes, .inl (cI, 240, .inl tape_bytes))] H locs) (hl : lv_has ls 4 [(0, .ref a_tape), (1, .int v1), (2, .int v2)]) : W p l e rm_X10_put s m args below meth c H locs 0 0 (MQ below (QcV D A [(oX10 a_tape (.ref a_tape_bytes) (.int o_tape_length) (.int tape_at)), (a_tape_bytes, .inl (cI, 240, .inl o_tape_bytes))]) args s 0 0 A) (F0 m 49 ls []) := by
  obtain ⟨hx, hb, hml, hown, hts, hr, hlk⟩ := id C
  obtain ⟨hK, hX, hA⟩ := id K
  unfold b_X10_put_49 at hf
  obtain ⟨v2_1, e_v2_1, hf⟩ := bnd_some hf
  refine lv_iinc (v := v2_1) (lv' := [(2, .int v2_1), (0, .ref a_tape), (1, .int v1)]) hx hb dX10_put_49 hl (k := 2) rfl (by rw [e_v2_1]; rfl) (by decide) rfl (fun ls hl => ?_)
  refine lv_goto (tgt := 3) hx hb dX10_put_52 (by decide) ?_
  exact hk3 tape_length tape_bytes v1 v2_1 _ _ _ hf hw (lv_sub hl [1, 2, 0] rfl)
set_option maxHeartbeats 4000000 in
set_option maxRecDepth 100000 in
theorem q_X10_put_3 {p : Program} {l : Launch} {e : Env} {s : State} {m : MethodId} {args : Array Value} {below : List Frame} {meth : Method} {c : Code} {sx : List sx_T} {D : va_G} {cI cZ cO : ClassId} {A : Nat → Prop} (C : Cx p s m args meth c RX10 wsX10_put cX10_put 4 none) (K : Kx sx D (tyL cI cZ cO) A s) (a_tape : Nat) (a_tape_bytes : Nat) (tape_at : Int32) (o_tape_length : Int32) (o_tape_bytes : Nat → Int32)   (k3 : Int32 → (Nat → Int32) → Int32 → Int32 → Option (Int32 × (Nat → Int32))) (hk3 : ∀ (tape_length : Int32) (tape_bytes : Nat → Int32) (v1 : Int32) (v2 : Int32) (H : Heap) (locs : List Loc) (ls : Array Slot), k3 tape_length tape_bytes v1 v2 = some (o_tape_length, o_tape_bytes) → Wo D A s [(oX10 a_tape (.ref a_tape_bytes) (.int tape_length) (.int tape_at)), (a_tape_bytes, .inl (cI, 240, .inl tape_bytes))] H locs → lv_has ls 4 [(0, .ref a_tape), (1, .int v1), (2, .int v2)] → W p l e rm_X10_put s m args below meth c H locs 0 0 (MQ below (QcV D A [(oX10 a_tape (.ref a_tape_bytes) (.int o_tape_length) (.int tape_at)), (a_tape_bytes, .inl (cI, 240, .inl o_tape_bytes))]) args s 0 0 A) (F0 m 3 ls [])) (tape_length : Int32) (tape_bytes : Nat → Int32) (v1 : Int32) (v2 : Int32) {H : Heap} {locs : List Loc} {ls : Array Slot} (hf : b_X10_put_3  k3 tape_length tape_bytes v1 v2 = some (o_tape_length, o_tape_bytes)) (hw : Wo D A s [(oX10 a_tape (.ref a_tape_bytes) (.int tape_length) (.int tape_at)), (a_tape_bytes, .inl (cI, 240, .inl tape_bytes))] H locs) (hl : lv_has ls 4 [(0, .ref a_tape), (1, .int v1), (2, .int v2)]) : W p l e rm_X10_put s m args below meth c H locs 0 0 (MQ below (QcV D A [(oX10 a_tape (.ref a_tape_bytes) (.int o_tape_length) (.int tape_at)), (a_tape_bytes, .inl (cI, 240, .inl o_tape_bytes))]) args s 0 0 A) (F0 m 3 ls []) := by
  obtain ⟨hx, hb, hml, hown, hts, hr, hlk⟩ := id C
  obtain ⟨hK, hX, hA⟩ := id K
  unfold b_X10_put_3 at hf
  refine lv_iload_n hx hb dX10_put_3 rfl (lv_at hl 2 rfl) ?_
  refine lv_if_lt (tgt := 55) hx hb dX10_put_4 (by decide) (fun hc => ?_) (fun hc => ?_)
  · have hf := (if_pos hc).symm.trans hf
    clear hk3; cases hf
    exact retV C hw dX10_put_55
  · have hf := (if_neg hc).symm.trans hf
    refine lv_iload_n hx hb dX10_put_7 rfl (lv_at hl 1 rfl) ?_
    refine lv_iload_n hx hb dX10_put_8 rfl (lv_at hl 2 rfl) ?_
    refine lv_iushr (v := ushr v1 v2) hx hb dX10_put_9 rfl ?_
    refine lv_sipush (v := (255 : Int32)) hx hb dX10_put_10 (by decide) ?_
    refine lv_iand hx hb dX10_put_13 ?_
    obtain ⟨v3_1, e_v3_1, hf⟩ := bnd_some hf
    refine lv_nmi e_v3_1 ?_
    refine lv_istore_n (lv' := [(3, .int v3_1), (0, .ref a_tape), (1, .int v1), (2, .int v2)]) hx hb dX10_put_14 rfl hl (by decide) rfl (fun ls hl => ?_)
    refine lv_iload_n hx hb dX10_put_15 rfl (lv_at hl 0 rfl) ?_
    refine lv_if_eq (tgt := 49) hx hb dX10_put_16 (by decide) (fun hc => ?_) (fun hc => ?_)
    · have hf := (if_pos hc).symm.trans hf
      exact q_X10_put_49 C K a_tape a_tape_bytes tape_at o_tape_length o_tape_bytes k3 hk3 tape_length tape_bytes v1 v2 hf hw (lv_sub hl [1, 2, 3] rfl)
    · have hf := (if_neg hc).symm.trans hf
      refine lv_aload_n hx hb dX10_put_19 rfl (lv_at hl 1 rfl) ?_
      refine va_get (ci := 10) (v := .int tape_length) (C := RX10) (T := TX10) (N := 3) hx hb hts in_X10_put_X10 hown hK hw.1 0 rfl rfl 1 (by decide) (hts _ lk_X10_put_0) (fun _ h9 => h9) rfl dX10_put_20 ?_
      refine lv_sipush (v := (240 : Int32)) hx hb dX10_put_23 (by decide) ?_
      refine lv_icmp_ge (tgt := 49) hx hb dX10_put_26 (by decide) (fun hc => ?_) (fun hc => ?_)
      · have hf := (if_pos hc).symm.trans hf
        exact q_X10_put_49 C K a_tape a_tape_bytes tape_at o_tape_length o_tape_bytes k3 hk3 tape_length tape_bytes v1 v2 hf hw (lv_sub hl [1, 2, 3] rfl)
      · have hf := (if_neg hc).symm.trans hf
        refine lv_aload_n hx hb dX10_put_29 rfl (lv_at hl 1 rfl) ?_
        refine va_get (ci := 10) (v := .ref a_tape_bytes) (C := RX10) (T := TX10) (N := 3) hx hb hts in_X10_put_X10 hown hK hw.1 0 rfl rfl 0 (by decide) (hts _ lk_X10_put_1) (fun _ h9 => h9) rfl dX10_put_30 ?_
        refine lv_aload_n hx hb dX10_put_33 rfl (lv_at hl 1 rfl) ?_
        refine va_get (ci := 10) (v := .int tape_length) (C := RX10) (T := TX10) (N := 3) hx hb hts in_X10_put_X10 hown hK hw.1 0 rfl rfl 1 (by decide) (hts _ lk_X10_put_0) (fun _ h9 => h9) rfl dX10_put_34 ?_
        refine lv_iload_n hx hb dX10_put_37 rfl (lv_at hl 0 rfl) ?_
        obtain ⟨hc_2, hf⟩ := gd_some hf
        obtain ⟨tape_bytes_3, e_tape_bytes_3, hf⟩ := bnd_some hf
        refine va_iast hx hb hK hw.1 hw.2.1 hw.2.2 1 0 rfl rfl (inB_in hc_2) dX10_put_38 (fun H locs hP hD hS => ?_)
        have hw : Wo D A s [(oX10 a_tape (.ref a_tape_bytes) (.int tape_length) (.int tape_at)), (a_tape_bytes, .inl (cI, 240, .inl tape_bytes_3))] H locs := by rw [e_tape_bytes_3]; exact ⟨hP, hD, hS⟩
        refine lv_aload_n hx hb dX10_put_39 rfl (lv_at hl 1 rfl) ?_
        refine lv_dup hx hb dX10_put_40 rfl ?_
        refine va_get (ci := 10) (v := .int tape_length) (C := RX10) (T := TX10) (N := 3) hx hb hts in_X10_put_X10 hown hK hw.1 0 rfl rfl 1 (by decide) (hts _ lk_X10_put_0) (fun _ h9 => h9) rfl dX10_put_41 ?_
        refine lv_iconst (v := (1 : Int32)) hx hb dX10_put_44 (by decide) ?_
        refine lv_iadd hx hb dX10_put_45 ?_
        obtain ⟨length_4, e_length_4, hf⟩ := bnd_some hf
        refine lv_nmi e_length_4 ?_
        refine va_put (ci := 10) (v := .int length_4) (ty := .int) (C := RX10) (T := TX10) (N := 3) hx hb hts in_X10_put_X10 tyX10 tyX10_ok nmX10 hown hK hw.1 hw.2.1 hw.2.2 0 rfl rfl 1 (by decide) (hts _ lk_X10_put_0) (fun _ h9 => h9) rfl (by decide +kernel) rfl rfl (Nat.le_of_ble_eq_true rfl) dX10_put_46 (fun H locs hP hD hS => ?_)
        have hw : Wo D A s [(oX10 a_tape (.ref a_tape_bytes) (.int length_4) (.int tape_at)), (a_tape_bytes, .inl (cI, 240, .inl tape_bytes_3))] H locs := ⟨hP, hD, hS⟩
        exact q_X10_put_49 C K a_tape a_tape_bytes tape_at o_tape_length o_tape_bytes k3 hk3 length_4 tape_bytes_3 v1 v2 hf hw (lv_sub hl [1, 2, 3] rfl)
theorem qf_X10_put_3 {p : Program} {l : Launch} {e : Env} {s : State} {m : MethodId} {args : Array Value} {below : List Frame} {meth : Method} {c : Code} {sx : List sx_T} {D : va_G} {cI cZ cO : ClassId} {A : Nat → Prop} (C : Cx p s m args meth c RX10 wsX10_put cX10_put 4 none) (K : Kx sx D (tyL cI cZ cO) A s) (a_tape : Nat) (a_tape_bytes : Nat) (tape_at : Int32) (o_tape_length : Int32) (o_tape_bytes : Nat → Int32)    (n : Nat) : ∀ (tape_length : Int32) (tape_bytes : Nat → Int32) (v1 : Int32) (v2 : Int32) (H : Heap) (locs : List Loc) (ls : Array Slot), f_X10_put_3   n tape_length tape_bytes v1 v2 = some (o_tape_length, o_tape_bytes) → Wo D A s [(oX10 a_tape (.ref a_tape_bytes) (.int tape_length) (.int tape_at)), (a_tape_bytes, .inl (cI, 240, .inl tape_bytes))] H locs → lv_has ls 4 [(0, .ref a_tape), (1, .int v1), (2, .int v2)] → W p l e rm_X10_put s m args below meth c H locs 0 0 (MQ below (QcV D A [(oX10 a_tape (.ref a_tape_bytes) (.int o_tape_length) (.int tape_at)), (a_tape_bytes, .inl (cI, 240, .inl o_tape_bytes))]) args s 0 0 A) (F0 m 3 ls []) := by
  induction n with
  | zero =>
    intro tape_length tape_bytes v1 v2 H locs ls hf
    have h9 : (none : Option (Int32 × (Nat → Int32))) = some (o_tape_length, o_tape_bytes) := hf
    cases h9
  | succ n ih =>
    intro tape_length tape_bytes v1 v2 H locs ls hf hw hl
    exact q_X10_put_3 C K a_tape a_tape_bytes tape_at o_tape_length o_tape_bytes  (f_X10_put_3   n) ih tape_length tape_bytes v1 v2 hf hw hl
set_option maxHeartbeats 4000000 in
set_option maxRecDepth 100000 in
theorem q_X10_put_0 {p : Program} {l : Launch} {e : Env} {s : State} {m : MethodId} {args : Array Value} {below : List Frame} {meth : Method} {c : Code} {sx : List sx_T} {D : va_G} {cI cZ cO : ClassId} {A : Nat → Prop} (C : Cx p s m args meth c RX10 wsX10_put cX10_put 4 none) (K : Kx sx D (tyL cI cZ cO) A s) (a_tape : Nat) (a_tape_bytes : Nat) (tape_at : Int32) (o_tape_length : Int32) (o_tape_bytes : Nat → Int32)    (tape_length : Int32) (tape_bytes : Nat → Int32) (v1 : Int32) {H : Heap} {locs : List Loc} {ls : Array Slot} (hf : b_X10_put_0   tape_length tape_bytes v1 = some (o_tape_length, o_tape_bytes)) (hw : Wo D A s [(oX10 a_tape (.ref a_tape_bytes) (.int tape_length) (.int tape_at)), (a_tape_bytes, .inl (cI, 240, .inl tape_bytes))] H locs) (hl : lv_has ls 4 [(0, .ref a_tape), (1, .int v1)]) : W p l e rm_X10_put s m args below meth c H locs 0 0 (MQ below (QcV D A [(oX10 a_tape (.ref a_tape_bytes) (.int o_tape_length) (.int tape_at)), (a_tape_bytes, .inl (cI, 240, .inl o_tape_bytes))]) args s 0 0 A) (F0 m 0 ls []) := by
  obtain ⟨hx, hb, hml, hown, hts, hr, hlk⟩ := id C
  obtain ⟨hK, hX, hA⟩ := id K
  unfold b_X10_put_0 at hf
  refine lv_bipush (v := (24 : Int32)) hx hb dX10_put_0 (by decide) ?_
  refine lv_istore_n (lv' := [(2, .int (24 : Int32)), (0, .ref a_tape), (1, .int v1)]) hx hb dX10_put_2 rfl hl (by decide) rfl (fun ls hl => ?_)
  exact qf_X10_put_3 C K a_tape a_tape_bytes tape_at o_tape_length o_tape_bytes  fu tape_length tape_bytes v1 (24 : Int32) _ _ _ hf hw (lv_sub hl [1, 2, 0] rfl)
set_option maxHeartbeats 4000000 in
set_option maxRecDepth 100000 in
theorem k_X10_put {l : Launch} {sx : List sx_T} {D : va_G} {cI cZ cO : ClassId} (a_tape : Nat) (a_tape_bytes : Nat) (tape_at : Int32) (o_tape_length : Int32) (o_tape_bytes : Nat → Int32) (tape_length : Int32) (tape_bytes : Nat → Int32) (p1 : Int32) (hF : f_X10_put tape_length tape_bytes p1 = some (o_tape_length, o_tape_bytes)) : CtV l yX10_put wsX10_put rm_X10_put sx D (tyL cI cZ cO) [.ref a_tape, .int p1] [(oX10 a_tape (.ref a_tape_bytes) (.int tape_length) (.int tape_at)), (a_tape_bytes, .inl (cI, 240, .inl tape_bytes))] [(oX10 a_tape (.ref a_tape_bytes) (.int o_tape_length) (.int tape_at)), (a_tape_bytes, .inl (cI, 240, .inl o_tape_bytes))] := by
  refine ctV_of (cc := cX10_put) (ret := none) (maxL := 4) (by decide) rfl (Nat.le_of_ble_eq_true rfl) ?_
  intro p e s m below meth c A ls C K hw hl
  exact q_X10_put_0 C K a_tape a_tape_bytes tape_at o_tape_length o_tape_bytes tape_length tape_bytes p1 hF hw (lv_sub hl [0, 1] rfl)
abbrev rm_X10_sign : Room := { frames := 0, cells := 0, slots := 0, locals := 0 }
theorem in_X10_sign_X10 : ∀ w ∈ u_ws RX10 TX10 3, w ∈ wsX10_sign := fun w h => List.mem_cons_of_mem _ (bi_wsX100 w h)
theorem lk_X10_sign_0 : Cond.fieldLink RX10 19 "GloveHouses$Tape" "at" "I" ∈ wsX10_sign := List.mem_cons_of_mem _ (bi_wsL_law0_r10 _ (List.mem_of_getElem? (i := 8) rfl))
theorem lk_X10_sign_1 : Cond.fieldLink RX10 15 "GloveHouses$Tape" "length" "I" ∈ wsX10_sign := List.mem_cons_of_mem _ (bi_wsL_law0_r8 _ (List.mem_of_getElem? (i := 15) rfl))
theorem lk_X10_sign_2 : Cond.fieldLink RX10 9 "GloveHouses$Tape" "bytes" "[I" ∈ wsX10_sign := List.mem_cons_of_mem _ (bi_wsL_law0_r3 _ (List.mem_of_getElem? (i := 21) rfl))
set_option maxHeartbeats 4000000 in
set_option maxRecDepth 100000 in
theorem q_X10_sign_0 {p : Program} {l : Launch} {e : Env} {s : State} {m : MethodId} {args : Array Value} {below : List Frame} {meth : Method} {c : Code} {sx : List sx_T} {D : va_G} {cI cZ cO : ClassId} {A : Nat → Prop} (C : Cx p s m args meth c RX10 wsX10_sign cX10_sign 1 (some .int)) (K : Kx sx D (tyL cI cZ cO) A s) (a_tape : Nat) (a_tape_bytes : Nat) (tape_length : Int32) (tape_bytes : Nat → Int32) (r0 : Int32) (o_tape_at : Int32)   (k0 : Int32 → Option (Int32 × Int32)) (hk0 : ∀ (tape_at : Int32) (H : Heap) (locs : List Loc) (ls : Array Slot), k0 tape_at = some (r0, o_tape_at) → Wo D A s [(oX10 a_tape (.ref a_tape_bytes) (.int tape_length) (.int tape_at)), (a_tape_bytes, .inl (cI, 240, .inl tape_bytes))] H locs → lv_has ls 1 [(0, .ref a_tape)] → W p l e rm_X10_sign s m args below meth c H locs 0 0 (MQ below (QcI D A r0 [(oX10 a_tape (.ref a_tape_bytes) (.int tape_length) (.int o_tape_at)), (a_tape_bytes, .inl (cI, 240, .inl tape_bytes))]) args s 0 0 A) (F0 m 0 ls [])) (tape_at : Int32) {H : Heap} {locs : List Loc} {ls : Array Slot} (hf : b_X10_sign_0 tape_length tape_bytes k0 tape_at = some (r0, o_tape_at)) (hw : Wo D A s [(oX10 a_tape (.ref a_tape_bytes) (.int tape_length) (.int tape_at)), (a_tape_bytes, .inl (cI, 240, .inl tape_bytes))] H locs) (hl : lv_has ls 1 [(0, .ref a_tape)]) : W p l e rm_X10_sign s m args below meth c H locs 0 0 (MQ below (QcI D A r0 [(oX10 a_tape (.ref a_tape_bytes) (.int tape_length) (.int o_tape_at)), (a_tape_bytes, .inl (cI, 240, .inl tape_bytes))]) args s 0 0 A) (F0 m 0 ls []) := by
  obtain ⟨hx, hb, hml, hown, hts, hr, hlk⟩ := id C
  obtain ⟨hK, hX, hA⟩ := id K
  unfold b_X10_sign_0 at hf
  refine lv_aload_n hx hb dX10_sign_0 rfl (lv_at hl 0 rfl) ?_
  refine va_get (ci := 10) (v := .int tape_at) (C := RX10) (T := TX10) (N := 3) hx hb hts in_X10_sign_X10 hown hK hw.1 0 rfl rfl 2 (by decide) (hts _ lk_X10_sign_0) (fun _ h9 => h9) rfl dX10_sign_1 ?_
  refine lv_aload_n hx hb dX10_sign_4 rfl (lv_at hl 0 rfl) ?_
  refine va_get (ci := 10) (v := .int tape_length) (C := RX10) (T := TX10) (N := 3) hx hb hts in_X10_sign_X10 hown hK hw.1 0 rfl rfl 1 (by decide) (hts _ lk_X10_sign_1) (fun _ h9 => h9) rfl dX10_sign_5 ?_
  refine lv_icmp_ge (tgt := 48) hx hb dX10_sign_8 (by decide) (fun hc => ?_) (fun hc => ?_)
  · have hf := (if_pos hc).symm.trans hf
    refine lv_iconst (v := (-1 : Int32)) hx hb dX10_sign_48 (by decide) ?_
    clear hk0; cases hf
    exact retI C hw dX10_sign_49 rfl
  · have hf := (if_neg hc).symm.trans hf
    refine lv_aload_n hx hb dX10_sign_11 rfl (lv_at hl 0 rfl) ?_
    refine va_get (ci := 10) (v := .ref a_tape_bytes) (C := RX10) (T := TX10) (N := 3) hx hb hts in_X10_sign_X10 hown hK hw.1 0 rfl rfl 0 (by decide) (hts _ lk_X10_sign_2) (fun _ h9 => h9) rfl dX10_sign_12 ?_
    refine lv_aload_n hx hb dX10_sign_15 rfl (lv_at hl 0 rfl) ?_
    refine va_get (ci := 10) (v := .int tape_at) (C := RX10) (T := TX10) (N := 3) hx hb hts in_X10_sign_X10 hown hK hw.1 0 rfl rfl 2 (by decide) (hts _ lk_X10_sign_0) (fun _ h9 => h9) rfl dX10_sign_16 ?_
    obtain ⟨hc_1, hf⟩ := gd_some hf
    refine va_iald hx hb hK hw.1 1 0 rfl rfl (inB_in hc_1) dX10_sign_19 ?_
    refine lv_bipush (v := (32 : Int32)) hx hb dX10_sign_20 (by decide) ?_
    refine lv_icmp_eq (tgt := 35) hx hb dX10_sign_22 (by decide) (fun hc => ?_) (fun hc => ?_)
    · have hf := (if_pos hc).symm.trans hf
      refine lv_aload_n hx hb dX10_sign_35 rfl (lv_at hl 0 rfl) ?_
      refine lv_dup hx hb dX10_sign_36 rfl ?_
      refine va_get (ci := 10) (v := .int tape_at) (C := RX10) (T := TX10) (N := 3) hx hb hts in_X10_sign_X10 hown hK hw.1 0 rfl rfl 2 (by decide) (hts _ lk_X10_sign_0) (fun _ h9 => h9) rfl dX10_sign_37 ?_
      refine lv_iconst (v := (1 : Int32)) hx hb dX10_sign_40 (by decide) ?_
      refine lv_iadd hx hb dX10_sign_41 ?_
      obtain ⟨at_2, e_at_2, hf⟩ := bnd_some hf
      refine lv_nmi e_at_2 ?_
      refine va_put (ci := 10) (v := .int at_2) (ty := .int) (C := RX10) (T := TX10) (N := 3) hx hb hts in_X10_sign_X10 tyX10 tyX10_ok nmX10 hown hK hw.1 hw.2.1 hw.2.2 0 rfl rfl 2 (by decide) (hts _ lk_X10_sign_0) (fun _ h9 => h9) rfl (by decide +kernel) rfl rfl (Nat.le_of_ble_eq_true rfl) dX10_sign_42 (fun H locs hP hD hS => ?_)
      have hw : Wo D A s [(oX10 a_tape (.ref a_tape_bytes) (.int tape_length) (.int at_2)), (a_tape_bytes, .inl (cI, 240, .inl tape_bytes))] H locs := ⟨hP, hD, hS⟩
      refine lv_goto (tgt := 0) hx hb dX10_sign_45 (by decide) ?_
      exact hk0 at_2 _ _ _ hf hw (lv_sub hl [0] rfl)
    · have hf := (if_neg hc).symm.trans hf
      refine lv_aload_n hx hb dX10_sign_25 rfl (lv_at hl 0 rfl) ?_
      refine va_get (ci := 10) (v := .ref a_tape_bytes) (C := RX10) (T := TX10) (N := 3) hx hb hts in_X10_sign_X10 hown hK hw.1 0 rfl rfl 0 (by decide) (hts _ lk_X10_sign_2) (fun _ h9 => h9) rfl dX10_sign_26 ?_
      refine lv_aload_n hx hb dX10_sign_29 rfl (lv_at hl 0 rfl) ?_
      refine va_get (ci := 10) (v := .int tape_at) (C := RX10) (T := TX10) (N := 3) hx hb hts in_X10_sign_X10 hown hK hw.1 0 rfl rfl 2 (by decide) (hts _ lk_X10_sign_0) (fun _ h9 => h9) rfl dX10_sign_30 ?_
      obtain ⟨hc_3, hf⟩ := gd_some hf
      refine va_iald hx hb hK hw.1 1 0 rfl rfl (inB_in hc_3) dX10_sign_33 ?_
      clear hk0; cases hf
      exact retI C hw dX10_sign_34 rfl
theorem qf_X10_sign_0 {p : Program} {l : Launch} {e : Env} {s : State} {m : MethodId} {args : Array Value} {below : List Frame} {meth : Method} {c : Code} {sx : List sx_T} {D : va_G} {cI cZ cO : ClassId} {A : Nat → Prop} (C : Cx p s m args meth c RX10 wsX10_sign cX10_sign 1 (some .int)) (K : Kx sx D (tyL cI cZ cO) A s) (a_tape : Nat) (a_tape_bytes : Nat) (tape_length : Int32) (tape_bytes : Nat → Int32) (r0 : Int32) (o_tape_at : Int32)    (n : Nat) : ∀ (tape_at : Int32) (H : Heap) (locs : List Loc) (ls : Array Slot), f_X10_sign_0 tape_length tape_bytes  n tape_at = some (r0, o_tape_at) → Wo D A s [(oX10 a_tape (.ref a_tape_bytes) (.int tape_length) (.int tape_at)), (a_tape_bytes, .inl (cI, 240, .inl tape_bytes))] H locs → lv_has ls 1 [(0, .ref a_tape)] → W p l e rm_X10_sign s m args below meth c H locs 0 0 (MQ below (QcI D A r0 [(oX10 a_tape (.ref a_tape_bytes) (.int tape_length) (.int o_tape_at)), (a_tape_bytes, .inl (cI, 240, .inl tape_bytes))]) args s 0 0 A) (F0 m 0 ls []) := by
  induction n with
  | zero =>
    intro tape_at H locs ls hf
    have h9 : (none : Option (Int32 × Int32)) = some (r0, o_tape_at) := hf
    cases h9
  | succ n ih =>
    intro tape_at H locs ls hf hw hl
    exact q_X10_sign_0 C K a_tape a_tape_bytes tape_length tape_bytes r0 o_tape_at  (f_X10_sign_0 tape_length tape_bytes  n) ih tape_at hf hw hl
set_option maxHeartbeats 4000000 in
set_option maxRecDepth 100000 in
theorem k_X10_sign {l : Launch} {sx : List sx_T} {D : va_G} {cI cZ cO : ClassId} (a_tape : Nat) (a_tape_bytes : Nat) (tape_length : Int32) (tape_bytes : Nat → Int32) (r0 : Int32) (o_tape_at : Int32) (tape_at : Int32) (hF : f_X10_sign tape_length tape_bytes tape_at = some (r0, o_tape_at)) : CtI l yX10_sign wsX10_sign rm_X10_sign sx D (tyL cI cZ cO) [.ref a_tape] [(oX10 a_tape (.ref a_tape_bytes) (.int tape_length) (.int tape_at)), (a_tape_bytes, .inl (cI, 240, .inl tape_bytes))] r0 [(oX10 a_tape (.ref a_tape_bytes) (.int tape_length) (.int o_tape_at)), (a_tape_bytes, .inl (cI, 240, .inl tape_bytes))] := by
  refine ctI_of (cc := cX10_sign) (ret := (some .int)) (maxL := 1) (by decide) rfl (Nat.le_of_ble_eq_true rfl) ?_
  intro p e s m below meth c A ls C K hw hl
  exact qf_X10_sign_0 C K a_tape a_tape_bytes tape_length tape_bytes r0 o_tape_at fu tape_at _ _ _ hF hw (lv_sub hl [0] rfl)
abbrev rm_X10_isAtDigit : Room := { frames := 0, cells := 0, slots := 0, locals := 0 }
theorem in_X10_isAtDigit_X10 : ∀ w ∈ u_ws RX10 TX10 3, w ∈ wsX10_isAtDigit := fun w h => List.mem_cons_of_mem _ (bi_wsX100 w h)
theorem lk_X10_isAtDigit_0 : Cond.fieldLink RX10 19 "GloveHouses$Tape" "at" "I" ∈ wsX10_isAtDigit := List.mem_cons_of_mem _ (bi_wsL_law0_r10 _ (List.mem_of_getElem? (i := 8) rfl))
theorem lk_X10_isAtDigit_1 : Cond.fieldLink RX10 15 "GloveHouses$Tape" "length" "I" ∈ wsX10_isAtDigit := List.mem_cons_of_mem _ (bi_wsL_law0_r8 _ (List.mem_of_getElem? (i := 15) rfl))
theorem lk_X10_isAtDigit_2 : Cond.fieldLink RX10 9 "GloveHouses$Tape" "bytes" "[I" ∈ wsX10_isAtDigit := List.mem_cons_of_mem _ (bi_wsL_law0_r3 _ (List.mem_of_getElem? (i := 21) rfl))
set_option maxHeartbeats 4000000 in
set_option maxRecDepth 100000 in
theorem q_X10_isAtDigit_0 {p : Program} {l : Launch} {e : Env} {s : State} {m : MethodId} {args : Array Value} {below : List Frame} {meth : Method} {c : Code} {sx : List sx_T} {D : va_G} {cI cZ cO : ClassId} {A : Nat → Prop} (C : Cx p s m args meth c RX10 wsX10_isAtDigit cX10_isAtDigit 1 (some .boolean)) (K : Kx sx D (tyL cI cZ cO) A s) (a_tape : Nat) (a_tape_bytes : Nat) (tape_length : Int32) (tape_at : Int32) (tape_bytes : Nat → Int32) (r0 : Int32)     {H : Heap} {locs : List Loc} {ls : Array Slot} (hf : b_X10_isAtDigit_0 tape_length tape_at tape_bytes   = some r0) (hw : Wo D A s [(oX10 a_tape (.ref a_tape_bytes) (.int tape_length) (.int tape_at)), (a_tape_bytes, .inl (cI, 240, .inl tape_bytes))] H locs) (hl : lv_has ls 1 [(0, .ref a_tape)]) : W p l e rm_X10_isAtDigit s m args below meth c H locs 0 0 (MQ below (QcI D A r0 [(oX10 a_tape (.ref a_tape_bytes) (.int tape_length) (.int tape_at)), (a_tape_bytes, .inl (cI, 240, .inl tape_bytes))]) args s 0 0 A) (F0 m 0 ls []) := by
  obtain ⟨hx, hb, hml, hown, hts, hr, hlk⟩ := id C
  obtain ⟨hK, hX, hA⟩ := id K
  unfold b_X10_isAtDigit_0 at hf
  refine lv_aload_n hx hb dX10_isAtDigit_0 rfl (lv_at hl 0 rfl) ?_
  refine va_get (ci := 10) (v := .int tape_at) (C := RX10) (T := TX10) (N := 3) hx hb hts in_X10_isAtDigit_X10 hown hK hw.1 0 rfl rfl 2 (by decide) (hts _ lk_X10_isAtDigit_0) (fun _ h9 => h9) rfl dX10_isAtDigit_1 ?_
  refine lv_aload_n hx hb dX10_isAtDigit_4 rfl (lv_at hl 0 rfl) ?_
  refine va_get (ci := 10) (v := .int tape_length) (C := RX10) (T := TX10) (N := 3) hx hb hts in_X10_isAtDigit_X10 hown hK hw.1 0 rfl rfl 1 (by decide) (hts _ lk_X10_isAtDigit_1) (fun _ h9 => h9) rfl dX10_isAtDigit_5 ?_
  refine lv_icmp_ge (tgt := 43) hx hb dX10_isAtDigit_8 (by decide) (fun hc => ?_) (fun hc => ?_)
  · have hf := (if_pos hc).symm.trans hf
    refine lv_iconst (v := (0 : Int32)) hx hb dX10_isAtDigit_43 (by decide) ?_
    cases hf
    exact retZ C hw dX10_isAtDigit_44 (by decide) rfl
  · have hf := (if_neg hc).symm.trans hf
    refine lv_aload_n hx hb dX10_isAtDigit_11 rfl (lv_at hl 0 rfl) ?_
    refine va_get (ci := 10) (v := .ref a_tape_bytes) (C := RX10) (T := TX10) (N := 3) hx hb hts in_X10_isAtDigit_X10 hown hK hw.1 0 rfl rfl 0 (by decide) (hts _ lk_X10_isAtDigit_2) (fun _ h9 => h9) rfl dX10_isAtDigit_12 ?_
    refine lv_aload_n hx hb dX10_isAtDigit_15 rfl (lv_at hl 0 rfl) ?_
    refine va_get (ci := 10) (v := .int tape_at) (C := RX10) (T := TX10) (N := 3) hx hb hts in_X10_isAtDigit_X10 hown hK hw.1 0 rfl rfl 2 (by decide) (hts _ lk_X10_isAtDigit_0) (fun _ h9 => h9) rfl dX10_isAtDigit_16 ?_
    obtain ⟨hc_1, hf⟩ := gd_some hf
    refine va_iald hx hb hK hw.1 1 0 rfl rfl (inB_in hc_1) dX10_isAtDigit_19 ?_
    refine lv_bipush (v := (48 : Int32)) hx hb dX10_isAtDigit_20 (by decide) ?_
    refine lv_icmp_lt (tgt := 43) hx hb dX10_isAtDigit_22 (by decide) (fun hc => ?_) (fun hc => ?_)
    · have hf := (if_pos hc).symm.trans hf
      refine lv_iconst (v := (0 : Int32)) hx hb dX10_isAtDigit_43 (by decide) ?_
      cases hf
      exact retZ C hw dX10_isAtDigit_44 (by decide) rfl
    · have hf := (if_neg hc).symm.trans hf
      refine lv_aload_n hx hb dX10_isAtDigit_25 rfl (lv_at hl 0 rfl) ?_
      refine va_get (ci := 10) (v := .ref a_tape_bytes) (C := RX10) (T := TX10) (N := 3) hx hb hts in_X10_isAtDigit_X10 hown hK hw.1 0 rfl rfl 0 (by decide) (hts _ lk_X10_isAtDigit_2) (fun _ h9 => h9) rfl dX10_isAtDigit_26 ?_
      refine lv_aload_n hx hb dX10_isAtDigit_29 rfl (lv_at hl 0 rfl) ?_
      refine va_get (ci := 10) (v := .int tape_at) (C := RX10) (T := TX10) (N := 3) hx hb hts in_X10_isAtDigit_X10 hown hK hw.1 0 rfl rfl 2 (by decide) (hts _ lk_X10_isAtDigit_0) (fun _ h9 => h9) rfl dX10_isAtDigit_30 ?_
      obtain ⟨hc_2, hf⟩ := gd_some hf
      refine va_iald hx hb hK hw.1 1 0 rfl rfl (inB_in hc_2) dX10_isAtDigit_33 ?_
      refine lv_bipush (v := (57 : Int32)) hx hb dX10_isAtDigit_34 (by decide) ?_
      refine lv_icmp_gt (tgt := 43) hx hb dX10_isAtDigit_36 (by decide) (fun hc => ?_) (fun hc => ?_)
      · have hf := (if_pos hc).symm.trans hf
        refine lv_iconst (v := (0 : Int32)) hx hb dX10_isAtDigit_43 (by decide) ?_
        cases hf
        exact retZ C hw dX10_isAtDigit_44 (by decide) rfl
      · have hf := (if_neg hc).symm.trans hf
        refine lv_iconst (v := (1 : Int32)) hx hb dX10_isAtDigit_39 (by decide) ?_
        refine lv_goto (tgt := 44) hx hb dX10_isAtDigit_40 (by decide) ?_
        cases hf
        exact retZ C hw dX10_isAtDigit_44 (by decide) rfl
set_option maxHeartbeats 4000000 in
set_option maxRecDepth 100000 in
theorem k_X10_isAtDigit {l : Launch} {sx : List sx_T} {D : va_G} {cI cZ cO : ClassId} (a_tape : Nat) (a_tape_bytes : Nat) (tape_length : Int32) (tape_at : Int32) (tape_bytes : Nat → Int32) (r0 : Int32) (hF : f_X10_isAtDigit tape_length tape_at tape_bytes = some r0) : CtI l yX10_isAtDigit wsX10_isAtDigit rm_X10_isAtDigit sx D (tyL cI cZ cO) [.ref a_tape] [(oX10 a_tape (.ref a_tape_bytes) (.int tape_length) (.int tape_at)), (a_tape_bytes, .inl (cI, 240, .inl tape_bytes))] r0 [(oX10 a_tape (.ref a_tape_bytes) (.int tape_length) (.int tape_at)), (a_tape_bytes, .inl (cI, 240, .inl tape_bytes))] := by
  refine ctI_of (cc := cX10_isAtDigit) (ret := (some .boolean)) (maxL := 1) (by decide) rfl (Nat.le_of_ble_eq_true rfl) ?_
  intro p e s m below meth c A ls C K hw hl
  exact q_X10_isAtDigit_0 C K a_tape a_tape_bytes tape_length tape_at tape_bytes r0  hF hw (lv_sub hl [0] rfl)
abbrev rm_X10_number : Room := { frames := 1, cells := 0, slots := 0, locals := 20 }
theorem in_X10_number_X10 : ∀ w ∈ u_ws RX10 TX10 3, w ∈ wsX10_number := fun w h => List.mem_cons_of_mem _ (bi_wsX100 w h)
theorem lk_X10_number_0 : Cond.fieldLink RX10 9 "GloveHouses$Tape" "bytes" "[I" ∈ wsX10_number := List.mem_cons_of_mem _ (bi_wsL_law0_r3 _ (List.mem_of_getElem? (i := 21) rfl))
theorem lk_X10_number_1 : Cond.fieldLink RX10 19 "GloveHouses$Tape" "at" "I" ∈ wsX10_number := List.mem_cons_of_mem _ (bi_wsL_law0_r10 _ (List.mem_of_getElem? (i := 8) rfl))
set_option maxHeartbeats 4000000 in
set_option maxRecDepth 100000 in
theorem q_X10_number_71 {p : Program} {l : Launch} {e : Env} {s : State} {m : MethodId} {args : Array Value} {below : List Frame} {meth : Method} {c : Code} {sx : List sx_T} {D : va_G} {cI cZ cO : ClassId} {A : Nat → Prop} (C : Cx p s m args meth c RX10 wsX10_number cX10_number 4 (some .int)) (K : Kx sx D (tyL cI cZ cO) A s) (a_tape : Nat) (a_tape_bytes : Nat) (tape_length : Int32) (tape_bytes : Nat → Int32) (r0 : Int32) (o_tape_at : Int32)    (tape_at : Int32) {H : Heap} {locs : List Loc} {ls : Array Slot} (hf : b_X10_number_71 tape_length tape_bytes  tape_at = some (r0, o_tape_at)) (hw : Wo D A s [(oX10 a_tape (.ref a_tape_bytes) (.int tape_length) (.int tape_at)), (a_tape_bytes, .inl (cI, 240, .inl tape_bytes))] H locs) (hl : lv_has ls 4 []) : W p l e rm_X10_number s m args below meth c H locs 0 0 (MQ below (QcI D A r0 [(oX10 a_tape (.ref a_tape_bytes) (.int tape_length) (.int o_tape_at)), (a_tape_bytes, .inl (cI, 240, .inl tape_bytes))]) args s 0 0 A) (F0 m 71 ls []) := by
  obtain ⟨hx, hb, hml, hown, hts, hr, hlk⟩ := id C
  obtain ⟨hK, hX, hA⟩ := id K
  unfold b_X10_number_71 at hf
  refine lv_iconst (v := (-1 : Int32)) hx hb dX10_number_71 (by decide) ?_
  refine lv_goto (tgt := 76) hx hb dX10_number_72 (by decide) ?_
  cases hf
  exact retI C hw dX10_number_76 rfl
set_option maxHeartbeats 4000000 in
set_option maxRecDepth 100000 in
theorem q_X10_number_60 {p : Program} {l : Launch} {e : Env} {s : State} {m : MethodId} {args : Array Value} {below : List Frame} {meth : Method} {c : Code} {sx : List sx_T} {D : va_G} {cI cZ cO : ClassId} {A : Nat → Prop} (C : Cx p s m args meth c RX10 wsX10_number cX10_number 4 (some .int)) (K : Kx sx D (tyL cI cZ cO) A s) (a_tape : Nat) (a_tape_bytes : Nat) (tape_length : Int32) (tape_bytes : Nat → Int32) (r0 : Int32) (o_tape_at : Int32)    (tape_at : Int32) (v2 : Int32) (v3 : Int32) {H : Heap} {locs : List Loc} {ls : Array Slot} (hf : b_X10_number_60 tape_length tape_bytes  tape_at v2 v3 = some (r0, o_tape_at)) (hw : Wo D A s [(oX10 a_tape (.ref a_tape_bytes) (.int tape_length) (.int tape_at)), (a_tape_bytes, .inl (cI, 240, .inl tape_bytes))] H locs) (hl : lv_has ls 4 [(0, .ref a_tape), (2, .int v2), (3, .int v3)]) : W p l e rm_X10_number s m args below meth c H locs 0 0 (MQ below (QcI D A r0 [(oX10 a_tape (.ref a_tape_bytes) (.int tape_length) (.int o_tape_at)), (a_tape_bytes, .inl (cI, 240, .inl tape_bytes))]) args s 0 0 A) (F0 m 60 ls []) := by
  obtain ⟨hx, hb, hml, hown, hts, hr, hlk⟩ := id C
  obtain ⟨hK, hX, hA⟩ := id K
  unfold b_X10_number_60 at hf
  refine lv_iload_n hx hb dX10_number_60 rfl (lv_at hl 2 rfl) ?_
  refine lv_if_eq (tgt := 71) hx hb dX10_number_61 (by decide) (fun hc => ?_) (fun hc => ?_)
  · have hf := (if_pos hc).symm.trans hf
    exact q_X10_number_71 C K a_tape a_tape_bytes tape_length tape_bytes r0 o_tape_at  tape_at hf hw (lv_sub hl [] rfl)
  · have hf := (if_neg hc).symm.trans hf
    refine lv_aload_n hx hb dX10_number_64 rfl (lv_at hl 0 rfl) ?_
    obtain ⟨r_1, hg_2, hf⟩ := ob1_some hf
    refine cl_ViA (As := []) (rest := []) C K hw (k_X10_isAtDigit a_tape a_tape_bytes tape_length tape_at tape_bytes r_1 hg_2) [0, 1] rfl (by decide) rfl rfl (ci := 10) (j := 0) rfl rfl (cwV 0 hts gX10_number_X10_isAtDigit rfl rfl rfl (by decide +kernel) ⟨Nat.le_of_ble_eq_true rfl, Nat.le_of_ble_eq_true rfl⟩) rfl hl rfl (Nat.le_of_ble_eq_true rfl) dX10_number_65 ⟨Nat.zero_le _, Nat.zero_le _⟩ (fun H locs hw => ?_)
    have hw : Wo D A s [(oX10 a_tape (.ref a_tape_bytes) (.int tape_length) (.int tape_at)), (a_tape_bytes, .inl (cI, 240, .inl tape_bytes))] H locs := hw
    refine lv_if_eq (tgt := 75) hx hb dX10_number_68 (by decide) (fun hc => ?_) (fun hc => ?_)
    · have hf := (if_pos hc).symm.trans hf
      refine lv_iload_n hx hb dX10_number_75 rfl (lv_at hl 1 rfl) ?_
      cases hf
      exact retI C hw dX10_number_76 rfl
    · have hf := (if_neg hc).symm.trans hf
      exact q_X10_number_71 C K a_tape a_tape_bytes tape_length tape_bytes r0 o_tape_at  tape_at hf hw (lv_sub hl [] rfl)
set_option maxHeartbeats 4000000 in
set_option maxRecDepth 100000 in
theorem q_X10_number_14 {p : Program} {l : Launch} {e : Env} {s : State} {m : MethodId} {args : Array Value} {below : List Frame} {meth : Method} {c : Code} {sx : List sx_T} {D : va_G} {cI cZ cO : ClassId} {A : Nat → Prop} (C : Cx p s m args meth c RX10 wsX10_number cX10_number 4 (some .int)) (K : Kx sx D (tyL cI cZ cO) A s) (a_tape : Nat) (a_tape_bytes : Nat) (tape_length : Int32) (tape_bytes : Nat → Int32) (r0 : Int32) (o_tape_at : Int32)   (k14 : Int32 → Int32 → Int32 → Int32 → Option (Int32 × Int32)) (hk14 : ∀ (tape_at : Int32) (v1 : Int32) (v2 : Int32) (v3 : Int32) (H : Heap) (locs : List Loc) (ls : Array Slot), k14 tape_at v1 v2 v3 = some (r0, o_tape_at) → Wo D A s [(oX10 a_tape (.ref a_tape_bytes) (.int tape_length) (.int tape_at)), (a_tape_bytes, .inl (cI, 240, .inl tape_bytes))] H locs → lv_has ls 4 [(0, .ref a_tape), (1, .int v1), (2, .int v2), (3, .int v3)] → W p l e rm_X10_number s m args below meth c H locs 0 0 (MQ below (QcI D A r0 [(oX10 a_tape (.ref a_tape_bytes) (.int tape_length) (.int o_tape_at)), (a_tape_bytes, .inl (cI, 240, .inl tape_bytes))]) args s 0 0 A) (F0 m 14 ls [])) (tape_at : Int32) (v1 : Int32) (v2 : Int32) (v3 : Int32) {H : Heap} {locs : List Loc} {ls : Array Slot} (hf : b_X10_number_14 tape_length tape_bytes k14 tape_at v1 v2 v3 = some (r0, o_tape_at)) (hw : Wo D A s [(oX10 a_tape (.ref a_tape_bytes) (.int tape_length) (.int tape_at)), (a_tape_bytes, .inl (cI, 240, .inl tape_bytes))] H locs) (hl : lv_has ls 4 [(0, .ref a_tape), (1, .int v1), (2, .int v2), (3, .int v3)]) : W p l e rm_X10_number s m args below meth c H locs 0 0 (MQ below (QcI D A r0 [(oX10 a_tape (.ref a_tape_bytes) (.int tape_length) (.int o_tape_at)), (a_tape_bytes, .inl (cI, 240, .inl tape_bytes))]) args s 0 0 A) (F0 m 14 ls []) := by
  obtain ⟨hx, hb, hml, hown, hts, hr, hlk⟩ := id C
  obtain ⟨hK, hX, hA⟩ := id K
  unfold b_X10_number_14 at hf
  refine lv_iload_n hx hb dX10_number_14 rfl (lv_at hl 3 rfl) ?_
  refine lv_iload_n hx hb dX10_number_15 rfl (lv_at hl 1 rfl) ?_
  refine lv_icmp_ge (tgt := 60) hx hb dX10_number_16 (by decide) (fun hc => ?_) (fun hc => ?_)
  · have hf := (if_pos hc).symm.trans hf
    exact q_X10_number_60 C K a_tape a_tape_bytes tape_length tape_bytes r0 o_tape_at  tape_at v2 v3 hf hw (lv_sub hl [0, 2, 3] rfl)
  · have hf := (if_neg hc).symm.trans hf
    refine lv_aload_n hx hb dX10_number_19 rfl (lv_at hl 0 rfl) ?_
    obtain ⟨r_1, hg_2, hf⟩ := ob1_some hf
    refine cl_ViA (As := []) (rest := []) C K hw (k_X10_isAtDigit a_tape a_tape_bytes tape_length tape_at tape_bytes r_1 hg_2) [0, 1] rfl (by decide) rfl rfl (ci := 10) (j := 0) rfl rfl (cwV 0 hts gX10_number_X10_isAtDigit rfl rfl rfl (by decide +kernel) ⟨Nat.le_of_ble_eq_true rfl, Nat.le_of_ble_eq_true rfl⟩) rfl hl rfl (Nat.le_of_ble_eq_true rfl) dX10_number_20 ⟨Nat.zero_le _, Nat.zero_le _⟩ (fun H locs hw => ?_)
    have hw : Wo D A s [(oX10 a_tape (.ref a_tape_bytes) (.int tape_length) (.int tape_at)), (a_tape_bytes, .inl (cI, 240, .inl tape_bytes))] H locs := hw
    refine lv_if_eq (tgt := 60) hx hb dX10_number_23 (by decide) (fun hc => ?_) (fun hc => ?_)
    · have hf := (if_pos hc).symm.trans hf
      exact q_X10_number_60 C K a_tape a_tape_bytes tape_length tape_bytes r0 o_tape_at  tape_at v2 v3 hf hw (lv_sub hl [0, 2, 3] rfl)
    · have hf := (if_neg hc).symm.trans hf
      refine lv_iload_n hx hb dX10_number_26 rfl (lv_at hl 2 rfl) ?_
      refine lv_bipush (v := (10 : Int32)) hx hb dX10_number_27 (by decide) ?_
      refine lv_imul hx hb dX10_number_29 ?_
      refine lv_aload_n hx hb dX10_number_30 rfl (lv_at hl 0 rfl) ?_
      refine va_get (ci := 10) (v := .ref a_tape_bytes) (C := RX10) (T := TX10) (N := 3) hx hb hts in_X10_number_X10 hown hK hw.1 0 rfl rfl 0 (by decide) (hts _ lk_X10_number_0) (fun _ h9 => h9) rfl dX10_number_31 ?_
      refine lv_aload_n hx hb dX10_number_34 rfl (lv_at hl 0 rfl) ?_
      refine va_get (ci := 10) (v := .int tape_at) (C := RX10) (T := TX10) (N := 3) hx hb hts in_X10_number_X10 hown hK hw.1 0 rfl rfl 2 (by decide) (hts _ lk_X10_number_1) (fun _ h9 => h9) rfl dX10_number_35 ?_
      obtain ⟨hc_3, hf⟩ := gd_some hf
      refine va_iald hx hb hK hw.1 1 0 rfl rfl (inB_in hc_3) dX10_number_38 ?_
      refine lv_iadd hx hb dX10_number_39 ?_
      refine lv_bipush (v := (48 : Int32)) hx hb dX10_number_40 (by decide) ?_
      refine lv_isub hx hb dX10_number_42 ?_
      obtain ⟨n_4, e_n_4, hf⟩ := bnd_some hf
      refine lv_nmi e_n_4 ?_
      refine lv_istore_n (lv' := [(2, .int n_4), (0, .ref a_tape), (1, .int v1), (3, .int v3)]) hx hb dX10_number_43 rfl hl (by decide) rfl (fun ls hl => ?_)
      refine lv_aload_n hx hb dX10_number_44 rfl (lv_at hl 1 rfl) ?_
      refine lv_dup hx hb dX10_number_45 rfl ?_
      refine va_get (ci := 10) (v := .int tape_at) (C := RX10) (T := TX10) (N := 3) hx hb hts in_X10_number_X10 hown hK hw.1 0 rfl rfl 2 (by decide) (hts _ lk_X10_number_1) (fun _ h9 => h9) rfl dX10_number_46 ?_
      refine lv_iconst (v := (1 : Int32)) hx hb dX10_number_49 (by decide) ?_
      refine lv_iadd hx hb dX10_number_50 ?_
      obtain ⟨at_5, e_at_5, hf⟩ := bnd_some hf
      refine lv_nmi e_at_5 ?_
      refine va_put (ci := 10) (v := .int at_5) (ty := .int) (C := RX10) (T := TX10) (N := 3) hx hb hts in_X10_number_X10 tyX10 tyX10_ok nmX10 hown hK hw.1 hw.2.1 hw.2.2 0 rfl rfl 2 (by decide) (hts _ lk_X10_number_1) (fun _ h9 => h9) rfl (by decide +kernel) rfl rfl (Nat.le_of_ble_eq_true rfl) dX10_number_51 (fun H locs hP hD hS => ?_)
      have hw : Wo D A s [(oX10 a_tape (.ref a_tape_bytes) (.int tape_length) (.int at_5)), (a_tape_bytes, .inl (cI, 240, .inl tape_bytes))] H locs := ⟨hP, hD, hS⟩
      obtain ⟨v3_6, e_v3_6, hf⟩ := bnd_some hf
      refine lv_iinc (v := v3_6) (lv' := [(3, .int v3_6), (2, .int n_4), (0, .ref a_tape), (1, .int v1)]) hx hb dX10_number_54 hl (k := 3) rfl (by rw [e_v3_6]; rfl) (by decide) rfl (fun ls hl => ?_)
      refine lv_goto (tgt := 14) hx hb dX10_number_57 (by decide) ?_
      exact hk14 at_5 v1 n_4 v3_6 _ _ _ hf hw (lv_sub hl [2, 3, 1, 0] rfl)
theorem qf_X10_number_14 {p : Program} {l : Launch} {e : Env} {s : State} {m : MethodId} {args : Array Value} {below : List Frame} {meth : Method} {c : Code} {sx : List sx_T} {D : va_G} {cI cZ cO : ClassId} {A : Nat → Prop} (C : Cx p s m args meth c RX10 wsX10_number cX10_number 4 (some .int)) (K : Kx sx D (tyL cI cZ cO) A s) (a_tape : Nat) (a_tape_bytes : Nat) (tape_length : Int32) (tape_bytes : Nat → Int32) (r0 : Int32) (o_tape_at : Int32)    (n : Nat) : ∀ (tape_at : Int32) (v1 : Int32) (v2 : Int32) (v3 : Int32) (H : Heap) (locs : List Loc) (ls : Array Slot), f_X10_number_14 tape_length tape_bytes  n tape_at v1 v2 v3 = some (r0, o_tape_at) → Wo D A s [(oX10 a_tape (.ref a_tape_bytes) (.int tape_length) (.int tape_at)), (a_tape_bytes, .inl (cI, 240, .inl tape_bytes))] H locs → lv_has ls 4 [(0, .ref a_tape), (1, .int v1), (2, .int v2), (3, .int v3)] → W p l e rm_X10_number s m args below meth c H locs 0 0 (MQ below (QcI D A r0 [(oX10 a_tape (.ref a_tape_bytes) (.int tape_length) (.int o_tape_at)), (a_tape_bytes, .inl (cI, 240, .inl tape_bytes))]) args s 0 0 A) (F0 m 14 ls []) := by
  induction n with
  | zero =>
    intro tape_at v1 v2 v3 H locs ls hf
    have h9 : (none : Option (Int32 × Int32)) = some (r0, o_tape_at) := hf
    cases h9
  | succ n ih =>
    intro tape_at v1 v2 v3 H locs ls hf hw hl
    exact q_X10_number_14 C K a_tape a_tape_bytes tape_length tape_bytes r0 o_tape_at  (f_X10_number_14 tape_length tape_bytes  n) ih tape_at v1 v2 v3 hf hw hl
set_option maxHeartbeats 4000000 in
set_option maxRecDepth 100000 in
theorem q_X10_number_0 {p : Program} {l : Launch} {e : Env} {s : State} {m : MethodId} {args : Array Value} {below : List Frame} {meth : Method} {c : Code} {sx : List sx_T} {D : va_G} {cI cZ cO : ClassId} {A : Nat → Prop} (C : Cx p s m args meth c RX10 wsX10_number cX10_number 4 (some .int)) (K : Kx sx D (tyL cI cZ cO) A s) (a_tape : Nat) (a_tape_bytes : Nat) (tape_length : Int32) (tape_bytes : Nat → Int32) (r0 : Int32) (o_tape_at : Int32)    (tape_at : Int32) (v1 : Int32) {H : Heap} {locs : List Loc} {ls : Array Slot} (hf : b_X10_number_0 tape_length tape_bytes  tape_at v1 = some (r0, o_tape_at)) (hw : Wo D A s [(oX10 a_tape (.ref a_tape_bytes) (.int tape_length) (.int tape_at)), (a_tape_bytes, .inl (cI, 240, .inl tape_bytes))] H locs) (hl : lv_has ls 4 [(0, .ref a_tape), (1, .int v1)]) : W p l e rm_X10_number s m args below meth c H locs 0 0 (MQ below (QcI D A r0 [(oX10 a_tape (.ref a_tape_bytes) (.int tape_length) (.int o_tape_at)), (a_tape_bytes, .inl (cI, 240, .inl tape_bytes))]) args s 0 0 A) (F0 m 0 ls []) := by
  obtain ⟨hx, hb, hml, hown, hts, hr, hlk⟩ := id C
  obtain ⟨hK, hX, hA⟩ := id K
  unfold b_X10_number_0 at hf
  refine lv_aload_n hx hb dX10_number_0 rfl (lv_at hl 0 rfl) ?_
  obtain ⟨r_1, tape_at_2, hg_3, hf⟩ := ob2_some hf
  refine cl_ViA (As := []) (rest := []) C K hw (k_X10_sign a_tape a_tape_bytes tape_length tape_bytes r_1 tape_at_2 tape_at hg_3) [0, 1] rfl (by decide) rfl rfl (ci := 10) (j := 0) rfl rfl (cwV 0 hts gX10_number_X10_sign rfl rfl rfl (by decide +kernel) ⟨Nat.le_of_ble_eq_true rfl, Nat.le_of_ble_eq_true rfl⟩) rfl hl rfl (Nat.le_of_ble_eq_true rfl) dX10_number_1 ⟨Nat.zero_le _, Nat.zero_le _⟩ (fun H locs hw => ?_)
  have hw : Wo D A s [(oX10 a_tape (.ref a_tape_bytes) (.int tape_length) (.int tape_at_2)), (a_tape_bytes, .inl (cI, 240, .inl tape_bytes))] H locs := hw
  refine lv_iconst (v := (-1 : Int32)) hx hb dX10_number_4 (by decide) ?_
  refine lv_icmp_ne (tgt := 10) hx hb dX10_number_5 (by decide) (fun hc => ?_) (fun hc => ?_)
  · have hf := (if_neg hc).symm.trans hf
    refine lv_iconst (v := (0 : Int32)) hx hb dX10_number_10 (by decide) ?_
    refine lv_istore_n (lv' := [(2, .int (0 : Int32)), (0, .ref a_tape), (1, .int v1)]) hx hb dX10_number_11 rfl hl (by decide) rfl (fun ls hl => ?_)
    refine lv_iconst (v := (0 : Int32)) hx hb dX10_number_12 (by decide) ?_
    refine lv_istore_n (lv' := [(3, .int (0 : Int32)), (2, .int (0 : Int32)), (0, .ref a_tape), (1, .int v1)]) hx hb dX10_number_13 rfl hl (by decide) rfl (fun ls hl => ?_)
    exact qf_X10_number_14 C K a_tape a_tape_bytes tape_length tape_bytes r0 o_tape_at  fu tape_at_2 v1 (0 : Int32) (0 : Int32) _ _ _ hf hw (lv_sub hl [2, 3, 1, 0] rfl)
  · have hf := (if_pos hc).symm.trans hf
    refine lv_iconst (v := (-1 : Int32)) hx hb dX10_number_8 (by decide) ?_
    cases hf
    exact retI C hw dX10_number_9 rfl
set_option maxHeartbeats 4000000 in
set_option maxRecDepth 100000 in
theorem k_X10_number {l : Launch} {sx : List sx_T} {D : va_G} {cI cZ cO : ClassId} (a_tape : Nat) (a_tape_bytes : Nat) (tape_length : Int32) (tape_bytes : Nat → Int32) (r0 : Int32) (o_tape_at : Int32) (tape_at : Int32) (p1 : Int32) (hF : f_X10_number tape_length tape_bytes tape_at p1 = some (r0, o_tape_at)) : CtI l yX10_number wsX10_number rm_X10_number sx D (tyL cI cZ cO) [.ref a_tape, .int p1] [(oX10 a_tape (.ref a_tape_bytes) (.int tape_length) (.int tape_at)), (a_tape_bytes, .inl (cI, 240, .inl tape_bytes))] r0 [(oX10 a_tape (.ref a_tape_bytes) (.int tape_length) (.int o_tape_at)), (a_tape_bytes, .inl (cI, 240, .inl tape_bytes))] := by
  refine ctI_of (cc := cX10_number) (ret := (some .int)) (maxL := 4) (by decide) rfl (Nat.le_of_ble_eq_true rfl) ?_
  intro p e s m below meth c A ls C K hw hl
  exact q_X10_number_0 C K a_tape a_tape_bytes tape_length tape_bytes r0 o_tape_at tape_at p1 hF hw (lv_sub hl [0, 1] rfl)
abbrev rm_X10_take : Room := { frames := 1, cells := 0, slots := 0, locals := 20 }
theorem in_X10_take_X10 : ∀ w ∈ u_ws RX10 TX10 3, w ∈ wsX10_take := fun w h => List.mem_cons_of_mem _ (bi_wsX100 w h)
theorem lk_X10_take_0 : Cond.fieldLink RX10 19 "GloveHouses$Tape" "at" "I" ∈ wsX10_take := List.mem_cons_of_mem _ (bi_wsL_law0_r10 _ (List.mem_of_getElem? (i := 8) rfl))
set_option maxHeartbeats 4000000 in
set_option maxRecDepth 100000 in
theorem q_X10_take_0 {p : Program} {l : Launch} {e : Env} {s : State} {m : MethodId} {args : Array Value} {below : List Frame} {meth : Method} {c : Code} {sx : List sx_T} {D : va_G} {cI cZ cO : ClassId} {A : Nat → Prop} (C : Cx p s m args meth c RX10 wsX10_take cX10_take 2 (some .boolean)) (K : Kx sx D (tyL cI cZ cO) A s) (a_tape : Nat) (a_tape_bytes : Nat) (tape_length : Int32) (tape_bytes : Nat → Int32) (r0 : Int32) (o_tape_at : Int32)    (tape_at : Int32) (v1 : Int32) {H : Heap} {locs : List Loc} {ls : Array Slot} (hf : b_X10_take_0 tape_length tape_bytes  tape_at v1 = some (r0, o_tape_at)) (hw : Wo D A s [(oX10 a_tape (.ref a_tape_bytes) (.int tape_length) (.int tape_at)), (a_tape_bytes, .inl (cI, 240, .inl tape_bytes))] H locs) (hl : lv_has ls 2 [(0, .ref a_tape), (1, .int v1)]) : W p l e rm_X10_take s m args below meth c H locs 0 0 (MQ below (QcI D A r0 [(oX10 a_tape (.ref a_tape_bytes) (.int tape_length) (.int o_tape_at)), (a_tape_bytes, .inl (cI, 240, .inl tape_bytes))]) args s 0 0 A) (F0 m 0 ls []) := by
  obtain ⟨hx, hb, hml, hown, hts, hr, hlk⟩ := id C
  obtain ⟨hK, hX, hA⟩ := id K
  unfold b_X10_take_0 at hf
  refine lv_aload_n hx hb dX10_take_0 rfl (lv_at hl 0 rfl) ?_
  obtain ⟨r_1, tape_at_2, hg_3, hf⟩ := ob2_some hf
  refine cl_ViA (As := []) (rest := []) C K hw (k_X10_sign a_tape a_tape_bytes tape_length tape_bytes r_1 tape_at_2 tape_at hg_3) [0, 1] rfl (by decide) rfl rfl (ci := 10) (j := 0) rfl rfl (cwV 0 hts gX10_take_X10_sign rfl rfl rfl (by decide +kernel) ⟨Nat.le_of_ble_eq_true rfl, Nat.le_of_ble_eq_true rfl⟩) rfl hl rfl (Nat.le_of_ble_eq_true rfl) dX10_take_1 ⟨Nat.zero_le _, Nat.zero_le _⟩ (fun H locs hw => ?_)
  have hw : Wo D A s [(oX10 a_tape (.ref a_tape_bytes) (.int tape_length) (.int tape_at_2)), (a_tape_bytes, .inl (cI, 240, .inl tape_bytes))] H locs := hw
  refine lv_iload_n hx hb dX10_take_4 rfl (lv_at hl 1 rfl) ?_
  refine lv_icmp_eq (tgt := 10) hx hb dX10_take_5 (by decide) (fun hc => ?_) (fun hc => ?_)
  · have hf := (if_pos hc).symm.trans hf
    refine lv_aload_n hx hb dX10_take_10 rfl (lv_at hl 0 rfl) ?_
    refine lv_dup hx hb dX10_take_11 rfl ?_
    refine va_get (ci := 10) (v := .int tape_at_2) (C := RX10) (T := TX10) (N := 3) hx hb hts in_X10_take_X10 hown hK hw.1 0 rfl rfl 2 (by decide) (hts _ lk_X10_take_0) (fun _ h9 => h9) rfl dX10_take_12 ?_
    refine lv_iconst (v := (1 : Int32)) hx hb dX10_take_15 (by decide) ?_
    refine lv_iadd hx hb dX10_take_16 ?_
    obtain ⟨at_4, e_at_4, hf⟩ := bnd_some hf
    refine lv_nmi e_at_4 ?_
    refine va_put (ci := 10) (v := .int at_4) (ty := .int) (C := RX10) (T := TX10) (N := 3) hx hb hts in_X10_take_X10 tyX10 tyX10_ok nmX10 hown hK hw.1 hw.2.1 hw.2.2 0 rfl rfl 2 (by decide) (hts _ lk_X10_take_0) (fun _ h9 => h9) rfl (by decide +kernel) rfl rfl (Nat.le_of_ble_eq_true rfl) dX10_take_17 (fun H locs hP hD hS => ?_)
    have hw : Wo D A s [(oX10 a_tape (.ref a_tape_bytes) (.int tape_length) (.int at_4)), (a_tape_bytes, .inl (cI, 240, .inl tape_bytes))] H locs := ⟨hP, hD, hS⟩
    refine lv_iconst (v := (1 : Int32)) hx hb dX10_take_20 (by decide) ?_
    cases hf
    exact retZ C hw dX10_take_21 (by decide) rfl
  · have hf := (if_neg hc).symm.trans hf
    refine lv_iconst (v := (0 : Int32)) hx hb dX10_take_8 (by decide) ?_
    cases hf
    exact retZ C hw dX10_take_9 (by decide) rfl
set_option maxHeartbeats 4000000 in
set_option maxRecDepth 100000 in
theorem k_X10_take {l : Launch} {sx : List sx_T} {D : va_G} {cI cZ cO : ClassId} (a_tape : Nat) (a_tape_bytes : Nat) (tape_length : Int32) (tape_bytes : Nat → Int32) (r0 : Int32) (o_tape_at : Int32) (tape_at : Int32) (p1 : Int32) (hF : f_X10_take tape_length tape_bytes tape_at p1 = some (r0, o_tape_at)) : CtI l yX10_take wsX10_take rm_X10_take sx D (tyL cI cZ cO) [.ref a_tape, .int p1] [(oX10 a_tape (.ref a_tape_bytes) (.int tape_length) (.int tape_at)), (a_tape_bytes, .inl (cI, 240, .inl tape_bytes))] r0 [(oX10 a_tape (.ref a_tape_bytes) (.int tape_length) (.int o_tape_at)), (a_tape_bytes, .inl (cI, 240, .inl tape_bytes))] := by
  refine ctI_of (cc := cX10_take) (ret := (some .boolean)) (maxL := 2) (by decide) rfl (Nat.le_of_ble_eq_true rfl) ?_
  intro p e s m below meth c A ls C K hw hl
  exact q_X10_take_0 C K a_tape a_tape_bytes tape_length tape_bytes r0 o_tape_at tape_at p1 hF hw (lv_sub hl [0, 1] rfl)
end
section
abbrev rm_X5_sizeOf : Room := { frames := 0, cells := 0, slots := 0, locals := 0 }
theorem in_X5_sizeOf_X5 : ∀ w ∈ u_ws RX5 TX5 10, w ∈ wsX5_sizeOf := fun w h => List.mem_cons_of_mem _ (bi_wsX50 w h)
theorem lk_X5_sizeOf_0 : Cond.fieldLink RX5 30 "GloveHouses$Peace" "gloves" "I" ∈ wsX5_sizeOf := List.mem_cons_of_mem _ (bi_wsL_law0_r12 _ (List.mem_of_getElem? (i := 8) rfl))
theorem lk_X5_sizeOf_1 : Cond.fieldLink RX5 9 "GloveHouses$Peace" "house" "[I" ∈ wsX5_sizeOf := List.mem_cons_of_mem _ (bi_wsL_law0_r4 _ (List.mem_of_getElem? (i := 9) rfl))
set_option maxHeartbeats 4000000 in
set_option maxRecDepth 100000 in
theorem q_X5_sizeOf_25 {p : Program} {l : Launch} {e : Env} {s : State} {m : MethodId} {args : Array Value} {below : List Frame} {meth : Method} {c : Code} {sx : List sx_T} {D : va_G} {cI cZ cO : ClassId} {A : Nat → Prop} (C : Cx p s m args meth c RX5 wsX5_sizeOf cX5_sizeOf 4 (some .int)) (K : Kx sx D (tyL cI cZ cO) A s) (a_P : Nat) (a_P_house : Nat) (a_P_free : Nat) (a_P_stuffed : Nat) (a_P_after : Nat) (a_P_weight : Nat) (a_P_need : Nat) (P_gloves : Int32) (P_matters : Int32) (P_pride : Int32) (P_coins : Int32) (P_house : Nat → Int32) (r0 : Int32)   (k4 : Int32 → Int32 → Int32 → Option (Int32)) (hk4 : ∀ (v1 : Int32) (v2 : Int32) (v3 : Int32) (H : Heap) (locs : List Loc) (ls : Array Slot), k4 v1 v2 v3 = some r0 → Wo D A s [(oX5 a_P (.int P_gloves) (.int P_matters) (.int P_pride) (.int P_coins) (.ref a_P_house) (.ref a_P_free) (.ref a_P_stuffed) (.ref a_P_after) (.ref a_P_weight) (.ref a_P_need)), (a_P_house, .inl (cI, 6, .inl P_house))] H locs → lv_has ls 4 [(0, .ref a_P), (1, .int v1), (2, .int v2), (3, .int v3)] → W p l e rm_X5_sizeOf s m args below meth c H locs 0 0 (MQ below (QcI D A r0 [(oX5 a_P (.int P_gloves) (.int P_matters) (.int P_pride) (.int P_coins) (.ref a_P_house) (.ref a_P_free) (.ref a_P_stuffed) (.ref a_P_after) (.ref a_P_weight) (.ref a_P_need)), (a_P_house, .inl (cI, 6, .inl P_house))]) args s 0 0 A) (F0 m 4 ls [])) (v1 : Int32) (v2 : Int32) (v3 : Int32) {H : Heap} {locs : List Loc} {ls : Array Slot} (hf : b_X5_sizeOf_25 P_gloves P_house k4 v1 v2 v3 = some r0) (hw : Wo D A s [(oX5 a_P (.int P_gloves) (.int P_matters) (.int P_pride) (.int P_coins) (.ref a_P_house) (.ref a_P_free) (.ref a_P_stuffed) (.ref a_P_after) (.ref a_P_weight) (.ref a_P_need)), (a_P_house, .inl (cI, 6, .inl P_house))] H locs) (hl : lv_has ls 4 [(0, .ref a_P), (1, .int v1), (2, .int v2), (3, .int v3)]) : W p l e rm_X5_sizeOf s m args below meth c H locs 0 0 (MQ below (QcI D A r0 [(oX5 a_P (.int P_gloves) (.int P_matters) (.int P_pride) (.int P_coins) (.ref a_P_house) (.ref a_P_free) (.ref a_P_stuffed) (.ref a_P_after) (.ref a_P_weight) (.ref a_P_need)), (a_P_house, .inl (cI, 6, .inl P_house))]) args s 0 0 A) (F0 m 25 ls []) := by
  obtain ⟨hx, hb, hml, hown, hts, hr, hlk⟩ := id C
  obtain ⟨hK, hX, hA⟩ := id K
  unfold b_X5_sizeOf_25 at hf
  obtain ⟨v3_1, e_v3_1, hf⟩ := bnd_some hf
  refine lv_iinc (v := v3_1) (lv' := [(3, .int v3_1), (0, .ref a_P), (1, .int v1), (2, .int v2)]) hx hb dX5_sizeOf_25 hl (k := 3) rfl (by rw [e_v3_1]; rfl) (by decide) rfl (fun ls hl => ?_)
  refine lv_goto (tgt := 4) hx hb dX5_sizeOf_28 (by decide) ?_
  exact hk4 v1 v2 v3_1 _ _ _ hf hw (lv_sub hl [1, 2, 3, 0] rfl)
set_option maxHeartbeats 4000000 in
set_option maxRecDepth 100000 in
theorem q_X5_sizeOf_4 {p : Program} {l : Launch} {e : Env} {s : State} {m : MethodId} {args : Array Value} {below : List Frame} {meth : Method} {c : Code} {sx : List sx_T} {D : va_G} {cI cZ cO : ClassId} {A : Nat → Prop} (C : Cx p s m args meth c RX5 wsX5_sizeOf cX5_sizeOf 4 (some .int)) (K : Kx sx D (tyL cI cZ cO) A s) (a_P : Nat) (a_P_house : Nat) (a_P_free : Nat) (a_P_stuffed : Nat) (a_P_after : Nat) (a_P_weight : Nat) (a_P_need : Nat) (P_gloves : Int32) (P_matters : Int32) (P_pride : Int32) (P_coins : Int32) (P_house : Nat → Int32) (r0 : Int32)   (k4 : Int32 → Int32 → Int32 → Option (Int32)) (hk4 : ∀ (v1 : Int32) (v2 : Int32) (v3 : Int32) (H : Heap) (locs : List Loc) (ls : Array Slot), k4 v1 v2 v3 = some r0 → Wo D A s [(oX5 a_P (.int P_gloves) (.int P_matters) (.int P_pride) (.int P_coins) (.ref a_P_house) (.ref a_P_free) (.ref a_P_stuffed) (.ref a_P_after) (.ref a_P_weight) (.ref a_P_need)), (a_P_house, .inl (cI, 6, .inl P_house))] H locs → lv_has ls 4 [(0, .ref a_P), (1, .int v1), (2, .int v2), (3, .int v3)] → W p l e rm_X5_sizeOf s m args below meth c H locs 0 0 (MQ below (QcI D A r0 [(oX5 a_P (.int P_gloves) (.int P_matters) (.int P_pride) (.int P_coins) (.ref a_P_house) (.ref a_P_free) (.ref a_P_stuffed) (.ref a_P_after) (.ref a_P_weight) (.ref a_P_need)), (a_P_house, .inl (cI, 6, .inl P_house))]) args s 0 0 A) (F0 m 4 ls [])) (v1 : Int32) (v2 : Int32) (v3 : Int32) {H : Heap} {locs : List Loc} {ls : Array Slot} (hf : b_X5_sizeOf_4 P_gloves P_house k4 v1 v2 v3 = some r0) (hw : Wo D A s [(oX5 a_P (.int P_gloves) (.int P_matters) (.int P_pride) (.int P_coins) (.ref a_P_house) (.ref a_P_free) (.ref a_P_stuffed) (.ref a_P_after) (.ref a_P_weight) (.ref a_P_need)), (a_P_house, .inl (cI, 6, .inl P_house))] H locs) (hl : lv_has ls 4 [(0, .ref a_P), (1, .int v1), (2, .int v2), (3, .int v3)]) : W p l e rm_X5_sizeOf s m args below meth c H locs 0 0 (MQ below (QcI D A r0 [(oX5 a_P (.int P_gloves) (.int P_matters) (.int P_pride) (.int P_coins) (.ref a_P_house) (.ref a_P_free) (.ref a_P_stuffed) (.ref a_P_after) (.ref a_P_weight) (.ref a_P_need)), (a_P_house, .inl (cI, 6, .inl P_house))]) args s 0 0 A) (F0 m 4 ls []) := by
  obtain ⟨hx, hb, hml, hown, hts, hr, hlk⟩ := id C
  obtain ⟨hK, hX, hA⟩ := id K
  unfold b_X5_sizeOf_4 at hf
  refine lv_iload_n hx hb dX5_sizeOf_4 rfl (lv_at hl 3 rfl) ?_
  refine lv_aload_n hx hb dX5_sizeOf_5 rfl (lv_at hl 0 rfl) ?_
  refine va_get (ci := 5) (v := .int P_gloves) (C := RX5) (T := TX5) (N := 10) hx hb hts in_X5_sizeOf_X5 hown hK hw.1 0 rfl rfl 0 (by decide) (hts _ lk_X5_sizeOf_0) (fun _ h9 => h9) rfl dX5_sizeOf_6 ?_
  refine lv_icmp_ge (tgt := 31) hx hb dX5_sizeOf_9 (by decide) (fun hc => ?_) (fun hc => ?_)
  · have hf := (if_pos hc).symm.trans hf
    refine lv_iload_n hx hb dX5_sizeOf_31 rfl (lv_at hl 2 rfl) ?_
    clear hk4; cases hf
    exact retI C hw dX5_sizeOf_32 rfl
  · have hf := (if_neg hc).symm.trans hf
    refine lv_aload_n hx hb dX5_sizeOf_12 rfl (lv_at hl 0 rfl) ?_
    refine va_get (ci := 5) (v := .ref a_P_house) (C := RX5) (T := TX5) (N := 10) hx hb hts in_X5_sizeOf_X5 hown hK hw.1 0 rfl rfl 4 (by decide) (hts _ lk_X5_sizeOf_1) (fun _ h9 => h9) rfl dX5_sizeOf_13 ?_
    refine lv_iload_n hx hb dX5_sizeOf_16 rfl (lv_at hl 3 rfl) ?_
    obtain ⟨hc_1, hf⟩ := gd_some hf
    refine va_iald hx hb hK hw.1 1 0 rfl rfl (inB_in hc_1) dX5_sizeOf_17 ?_
    refine lv_iload_n hx hb dX5_sizeOf_18 rfl (lv_at hl 1 rfl) ?_
    refine lv_icmp_ne (tgt := 25) hx hb dX5_sizeOf_19 (by decide) (fun hc => ?_) (fun hc => ?_)
    · have hf := (if_neg hc).symm.trans hf
      exact q_X5_sizeOf_25 C K a_P a_P_house a_P_free a_P_stuffed a_P_after a_P_weight a_P_need P_gloves P_matters P_pride P_coins P_house r0 k4 hk4 v1 v2 v3 hf hw (lv_sub hl [0, 1, 2, 3] rfl)
    · have hf := (if_pos hc).symm.trans hf
      obtain ⟨v2_2, e_v2_2, hf⟩ := bnd_some hf
      refine lv_iinc (v := v2_2) (lv' := [(2, .int v2_2), (0, .ref a_P), (1, .int v1), (3, .int v3)]) hx hb dX5_sizeOf_22 hl (k := 2) rfl (by rw [e_v2_2]; rfl) (by decide) rfl (fun ls hl => ?_)
      exact q_X5_sizeOf_25 C K a_P a_P_house a_P_free a_P_stuffed a_P_after a_P_weight a_P_need P_gloves P_matters P_pride P_coins P_house r0 k4 hk4 v1 v2_2 v3 hf hw (lv_sub hl [1, 2, 0, 3] rfl)
theorem qf_X5_sizeOf_4 {p : Program} {l : Launch} {e : Env} {s : State} {m : MethodId} {args : Array Value} {below : List Frame} {meth : Method} {c : Code} {sx : List sx_T} {D : va_G} {cI cZ cO : ClassId} {A : Nat → Prop} (C : Cx p s m args meth c RX5 wsX5_sizeOf cX5_sizeOf 4 (some .int)) (K : Kx sx D (tyL cI cZ cO) A s) (a_P : Nat) (a_P_house : Nat) (a_P_free : Nat) (a_P_stuffed : Nat) (a_P_after : Nat) (a_P_weight : Nat) (a_P_need : Nat) (P_gloves : Int32) (P_matters : Int32) (P_pride : Int32) (P_coins : Int32) (P_house : Nat → Int32) (r0 : Int32)    (n : Nat) : ∀ (v1 : Int32) (v2 : Int32) (v3 : Int32) (H : Heap) (locs : List Loc) (ls : Array Slot), f_X5_sizeOf_4 P_gloves P_house  n v1 v2 v3 = some r0 → Wo D A s [(oX5 a_P (.int P_gloves) (.int P_matters) (.int P_pride) (.int P_coins) (.ref a_P_house) (.ref a_P_free) (.ref a_P_stuffed) (.ref a_P_after) (.ref a_P_weight) (.ref a_P_need)), (a_P_house, .inl (cI, 6, .inl P_house))] H locs → lv_has ls 4 [(0, .ref a_P), (1, .int v1), (2, .int v2), (3, .int v3)] → W p l e rm_X5_sizeOf s m args below meth c H locs 0 0 (MQ below (QcI D A r0 [(oX5 a_P (.int P_gloves) (.int P_matters) (.int P_pride) (.int P_coins) (.ref a_P_house) (.ref a_P_free) (.ref a_P_stuffed) (.ref a_P_after) (.ref a_P_weight) (.ref a_P_need)), (a_P_house, .inl (cI, 6, .inl P_house))]) args s 0 0 A) (F0 m 4 ls []) := by
  induction n with
  | zero =>
    intro v1 v2 v3 H locs ls hf
    have h9 : (none : Option (Int32)) = some r0 := hf
    cases h9
  | succ n ih =>
    intro v1 v2 v3 H locs ls hf hw hl
    exact q_X5_sizeOf_4 C K a_P a_P_house a_P_free a_P_stuffed a_P_after a_P_weight a_P_need P_gloves P_matters P_pride P_coins P_house r0  (f_X5_sizeOf_4 P_gloves P_house  n) ih v1 v2 v3 hf hw hl
set_option maxHeartbeats 4000000 in
set_option maxRecDepth 100000 in
theorem q_X5_sizeOf_0 {p : Program} {l : Launch} {e : Env} {s : State} {m : MethodId} {args : Array Value} {below : List Frame} {meth : Method} {c : Code} {sx : List sx_T} {D : va_G} {cI cZ cO : ClassId} {A : Nat → Prop} (C : Cx p s m args meth c RX5 wsX5_sizeOf cX5_sizeOf 4 (some .int)) (K : Kx sx D (tyL cI cZ cO) A s) (a_P : Nat) (a_P_house : Nat) (a_P_free : Nat) (a_P_stuffed : Nat) (a_P_after : Nat) (a_P_weight : Nat) (a_P_need : Nat) (P_gloves : Int32) (P_matters : Int32) (P_pride : Int32) (P_coins : Int32) (P_house : Nat → Int32) (r0 : Int32)    (v1 : Int32) {H : Heap} {locs : List Loc} {ls : Array Slot} (hf : b_X5_sizeOf_0 P_gloves P_house  v1 = some r0) (hw : Wo D A s [(oX5 a_P (.int P_gloves) (.int P_matters) (.int P_pride) (.int P_coins) (.ref a_P_house) (.ref a_P_free) (.ref a_P_stuffed) (.ref a_P_after) (.ref a_P_weight) (.ref a_P_need)), (a_P_house, .inl (cI, 6, .inl P_house))] H locs) (hl : lv_has ls 4 [(0, .ref a_P), (1, .int v1)]) : W p l e rm_X5_sizeOf s m args below meth c H locs 0 0 (MQ below (QcI D A r0 [(oX5 a_P (.int P_gloves) (.int P_matters) (.int P_pride) (.int P_coins) (.ref a_P_house) (.ref a_P_free) (.ref a_P_stuffed) (.ref a_P_after) (.ref a_P_weight) (.ref a_P_need)), (a_P_house, .inl (cI, 6, .inl P_house))]) args s 0 0 A) (F0 m 0 ls []) := by
  obtain ⟨hx, hb, hml, hown, hts, hr, hlk⟩ := id C
  obtain ⟨hK, hX, hA⟩ := id K
  unfold b_X5_sizeOf_0 at hf
  refine lv_iconst (v := (0 : Int32)) hx hb dX5_sizeOf_0 (by decide) ?_
  refine lv_istore_n (lv' := [(2, .int (0 : Int32)), (0, .ref a_P), (1, .int v1)]) hx hb dX5_sizeOf_1 rfl hl (by decide) rfl (fun ls hl => ?_)
  refine lv_iconst (v := (0 : Int32)) hx hb dX5_sizeOf_2 (by decide) ?_
  refine lv_istore_n (lv' := [(3, .int (0 : Int32)), (2, .int (0 : Int32)), (0, .ref a_P), (1, .int v1)]) hx hb dX5_sizeOf_3 rfl hl (by decide) rfl (fun ls hl => ?_)
  exact qf_X5_sizeOf_4 C K a_P a_P_house a_P_free a_P_stuffed a_P_after a_P_weight a_P_need P_gloves P_matters P_pride P_coins P_house r0  fu v1 (0 : Int32) (0 : Int32) _ _ _ hf hw (lv_sub hl [2, 3, 1, 0] rfl)
set_option maxHeartbeats 4000000 in
set_option maxRecDepth 100000 in
theorem k_X5_sizeOf {l : Launch} {sx : List sx_T} {D : va_G} {cI cZ cO : ClassId} (a_P : Nat) (a_P_house : Nat) (a_P_free : Nat) (a_P_stuffed : Nat) (a_P_after : Nat) (a_P_weight : Nat) (a_P_need : Nat) (P_gloves : Int32) (P_matters : Int32) (P_pride : Int32) (P_coins : Int32) (P_house : Nat → Int32) (r0 : Int32) (p1 : Int32) (hF : f_X5_sizeOf P_gloves P_house p1 = some r0) : CtI l yX5_sizeOf wsX5_sizeOf rm_X5_sizeOf sx D (tyL cI cZ cO) [.ref a_P, .int p1] [(oX5 a_P (.int P_gloves) (.int P_matters) (.int P_pride) (.int P_coins) (.ref a_P_house) (.ref a_P_free) (.ref a_P_stuffed) (.ref a_P_after) (.ref a_P_weight) (.ref a_P_need)), (a_P_house, .inl (cI, 6, .inl P_house))] r0 [(oX5 a_P (.int P_gloves) (.int P_matters) (.int P_pride) (.int P_coins) (.ref a_P_house) (.ref a_P_free) (.ref a_P_stuffed) (.ref a_P_after) (.ref a_P_weight) (.ref a_P_need)), (a_P_house, .inl (cI, 6, .inl P_house))] := by
  refine ctI_of (cc := cX5_sizeOf) (ret := (some .int)) (maxL := 4) (by decide) rfl (Nat.le_of_ble_eq_true rfl) ?_
  intro p e s m below meth c A ls C K hw hl
  exact q_X5_sizeOf_0 C K a_P a_P_house a_P_free a_P_stuffed a_P_after a_P_weight a_P_need P_gloves P_matters P_pride P_coins P_house r0 p1 hF hw (lv_sub hl [0, 1] rfl)
abbrev rm_X5_copyFrom : Room := { frames := 1, cells := 0, slots := 0, locals := 26 }
theorem in_X5_copyFrom_X5 : ∀ w ∈ u_ws RX5 TX5 10, w ∈ wsX5_copyFrom := fun w h => List.mem_cons_of_mem _ (bi_wsX50 w h)
theorem lk_X5_copyFrom_0 : Cond.fieldLink RX5 30 "GloveHouses$Peace" "gloves" "I" ∈ wsX5_copyFrom := List.mem_cons_of_mem _ (bi_wsL_law0_r12 _ (List.mem_of_getElem? (i := 8) rfl))
theorem lk_X5_copyFrom_1 : Cond.fieldLink RX5 34 "GloveHouses$Peace" "matters" "I" ∈ wsX5_copyFrom := List.mem_cons_of_mem _ (bi_wsL_law0_r20 _ (List.mem_of_getElem? (i := 17) rfl))
theorem lk_X5_copyFrom_2 : Cond.fieldLink RX5 37 "GloveHouses$Peace" "pride" "I" ∈ wsX5_copyFrom := List.mem_cons_of_mem _ (bi_wsL_law0_r20 _ (List.mem_of_getElem? (i := 18) rfl))
theorem lk_X5_copyFrom_3 : Cond.fieldLink RX5 40 "GloveHouses$Peace" "coins" "I" ∈ wsX5_copyFrom := List.mem_cons_of_mem _ (bi_wsL_law0_r20 _ (List.mem_of_getElem? (i := 19) rfl))
theorem lk_X5_copyFrom_4 : Cond.fieldLink RX5 9 "GloveHouses$Peace" "house" "[I" ∈ wsX5_copyFrom := List.mem_cons_of_mem _ (bi_wsL_law0_r4 _ (List.mem_of_getElem? (i := 9) rfl))
theorem lk_X5_copyFrom_5 : Cond.methodLink RX5 43 arraycopyName ∈ wsX5_copyFrom := List.mem_cons_of_mem _ (bi_wsL_law0_r20 _ (List.mem_of_getElem? (i := 20) rfl))
theorem lk_X5_copyFrom_6 : Cond.native arraycopyName ∈ wsX5_copyFrom := List.mem_cons_of_mem _ (bi_wsL_law0_r10 _ (List.mem_of_getElem? (i := 21) rfl))
theorem lk_X5_copyFrom_7 : Cond.static arraycopyName ∈ wsX5_copyFrom := List.mem_cons_of_mem _ (bi_wsL_law0_r10 _ (List.mem_of_getElem? (i := 22) rfl))
theorem lk_X5_copyFrom_8 : Cond.initialized "java/lang/System" ∈ wsX5_copyFrom := List.mem_cons_of_mem _ (bi_wsL_law0_r10 _ (List.mem_of_getElem? (i := 23) rfl))
theorem lk_X5_copyFrom_9 : Cond.fieldLink RX5 15 "GloveHouses$Peace" "free" "[I" ∈ wsX5_copyFrom := List.mem_cons_of_mem _ (bi_wsL_law0_r4 _ (List.mem_of_getElem? (i := 10) rfl))
theorem lk_X5_copyFrom_10 : Cond.fieldLink RX5 18 "GloveHouses$Peace" "stuffed" "[I" ∈ wsX5_copyFrom := List.mem_cons_of_mem _ (bi_wsL_law0_r4 _ (List.mem_of_getElem? (i := 11) rfl))
theorem lk_X5_copyFrom_11 : Cond.fieldLink RX5 21 "GloveHouses$Peace" "after" "[I" ∈ wsX5_copyFrom := List.mem_cons_of_mem _ (bi_wsL_law0_r4 _ (List.mem_of_getElem? (i := 12) rfl))
theorem lk_X5_copyFrom_12 : Cond.fieldLink RX5 24 "GloveHouses$Peace" "weight" "[I" ∈ wsX5_copyFrom := List.mem_cons_of_mem _ (bi_wsL_law0_r4 _ (List.mem_of_getElem? (i := 13) rfl))
theorem lk_X5_copyFrom_13 : Cond.fieldLink RX5 27 "GloveHouses$Peace" "need" "[I" ∈ wsX5_copyFrom := List.mem_cons_of_mem _ (bi_wsL_law0_r4 _ (List.mem_of_getElem? (i := 14) rfl))
set_option maxHeartbeats 4000000 in
set_option maxRecDepth 100000 in
theorem q_X5_copyFrom_0 {p : Program} {l : Launch} {e : Env} {s : State} {m : MethodId} {args : Array Value} {below : List Frame} {meth : Method} {c : Code} {sx : List sx_T} {D : va_G} {cI cZ cO : ClassId} {A : Nat → Prop} (C : Cx p s m args meth c RX5 wsX5_copyFrom cX5_copyFrom 2 none) (K : Kx sx D (tyL cI cZ cO) A s) (a_P : Nat) (a_P_house : Nat) (a_P_free : Nat) (a_P_stuffed : Nat) (a_P_after : Nat) (a_P_weight : Nat) (a_P_need : Nat) (a_PO : Nat) (a_PO_house : Nat) (a_PO_free : Nat) (a_PO_stuffed : Nat) (a_PO_after : Nat) (a_PO_weight : Nat) (a_PO_need : Nat) (PO_gloves : Int32) (PO_matters : Int32) (PO_pride : Int32) (PO_coins : Int32) (PO_house : Nat → Int32) (PO_free : Nat → Int32) (PO_stuffed : Nat → Int32) (PO_after : Nat → Int32) (PO_weight : Nat → Int32) (PO_need : Nat → Int32) (o_P_gloves : Int32) (o_P_matters : Int32) (o_P_pride : Int32) (o_P_coins : Int32) (o_P_house : Nat → Int32) (o_P_free : Nat → Int32) (o_P_stuffed : Nat → Int32) (o_P_after : Nat → Int32) (o_P_weight : Nat → Int32) (o_P_need : Nat → Int32)    (P_gloves : Int32) (P_matters : Int32) (P_pride : Int32) (P_coins : Int32) (P_house : Nat → Int32) (P_free : Nat → Int32) (P_stuffed : Nat → Int32) (P_after : Nat → Int32) (P_weight : Nat → Int32) (P_need : Nat → Int32) {H : Heap} {locs : List Loc} {ls : Array Slot} (hf : b_X5_copyFrom_0 PO_gloves PO_matters PO_pride PO_coins PO_house PO_free PO_stuffed PO_after PO_weight PO_need  P_gloves P_matters P_pride P_coins P_house P_free P_stuffed P_after P_weight P_need = some (o_P_gloves, o_P_matters, o_P_pride, o_P_coins, o_P_house, o_P_free, o_P_stuffed, o_P_after, o_P_weight, o_P_need)) (hw : Wo D A s [(oX5 a_P (.int P_gloves) (.int P_matters) (.int P_pride) (.int P_coins) (.ref a_P_house) (.ref a_P_free) (.ref a_P_stuffed) (.ref a_P_after) (.ref a_P_weight) (.ref a_P_need)), (a_P_house, .inl (cI, 6, .inl P_house)), (a_P_free, .inl (cI, 6, .inl P_free)), (a_P_stuffed, .inl (cI, 6, .inl P_stuffed)), (a_P_after, .inl (cI, 6, .inl P_after)), (a_P_weight, .inl (cI, 5, .inl P_weight)), (a_P_need, .inl (cI, 5, .inl P_need)), (oX5 a_PO (.int PO_gloves) (.int PO_matters) (.int PO_pride) (.int PO_coins) (.ref a_PO_house) (.ref a_PO_free) (.ref a_PO_stuffed) (.ref a_PO_after) (.ref a_PO_weight) (.ref a_PO_need)), (a_PO_house, .inl (cI, 6, .inl PO_house)), (a_PO_free, .inl (cI, 6, .inl PO_free)), (a_PO_stuffed, .inl (cI, 6, .inl PO_stuffed)), (a_PO_after, .inl (cI, 6, .inl PO_after)), (a_PO_weight, .inl (cI, 5, .inl PO_weight)), (a_PO_need, .inl (cI, 5, .inl PO_need))] H locs) (hl : lv_has ls 2 [(0, .ref a_P), (1, .ref a_PO)]) : W p l e rm_X5_copyFrom s m args below meth c H locs 0 0 (MQ below (QcV D A [(oX5 a_P (.int o_P_gloves) (.int o_P_matters) (.int o_P_pride) (.int o_P_coins) (.ref a_P_house) (.ref a_P_free) (.ref a_P_stuffed) (.ref a_P_after) (.ref a_P_weight) (.ref a_P_need)), (a_P_house, .inl (cI, 6, .inl o_P_house)), (a_P_free, .inl (cI, 6, .inl o_P_free)), (a_P_stuffed, .inl (cI, 6, .inl o_P_stuffed)), (a_P_after, .inl (cI, 6, .inl o_P_after)), (a_P_weight, .inl (cI, 5, .inl o_P_weight)), (a_P_need, .inl (cI, 5, .inl o_P_need)), (oX5 a_PO (.int PO_gloves) (.int PO_matters) (.int PO_pride) (.int PO_coins) (.ref a_PO_house) (.ref a_PO_free) (.ref a_PO_stuffed) (.ref a_PO_after) (.ref a_PO_weight) (.ref a_PO_need)), (a_PO_house, .inl (cI, 6, .inl PO_house)), (a_PO_free, .inl (cI, 6, .inl PO_free)), (a_PO_stuffed, .inl (cI, 6, .inl PO_stuffed)), (a_PO_after, .inl (cI, 6, .inl PO_after)), (a_PO_weight, .inl (cI, 5, .inl PO_weight)), (a_PO_need, .inl (cI, 5, .inl PO_need))]) args s 0 0 A) (F0 m 0 ls []) := by
  obtain ⟨hx, hb, hml, hown, hts, hr, hlk⟩ := id C
  obtain ⟨hK, hX, hA⟩ := id K
  unfold b_X5_copyFrom_0 at hf
  refine lv_aload_n hx hb dX5_copyFrom_0 rfl (lv_at hl 0 rfl) ?_
  refine lv_aload_n hx hb dX5_copyFrom_1 rfl (lv_at hl 1 rfl) ?_
  refine va_get (ci := 5) (v := .int PO_gloves) (C := RX5) (T := TX5) (N := 10) hx hb hts in_X5_copyFrom_X5 hown hK hw.1 7 rfl rfl 0 (by decide) (hts _ lk_X5_copyFrom_0) (fun _ h9 => h9) rfl dX5_copyFrom_2 ?_
  refine va_put (ci := 5) (v := .int PO_gloves) (ty := .int) (C := RX5) (T := TX5) (N := 10) hx hb hts in_X5_copyFrom_X5 tyX5 tyX5_ok nmX5 hown hK hw.1 hw.2.1 hw.2.2 0 rfl rfl 0 (by decide) (hts _ lk_X5_copyFrom_0) (fun _ h9 => h9) rfl (by decide +kernel) rfl rfl (Nat.le_of_ble_eq_true rfl) dX5_copyFrom_5 (fun H locs hP hD hS => ?_)
  have hw : Wo D A s [(oX5 a_P (.int PO_gloves) (.int P_matters) (.int P_pride) (.int P_coins) (.ref a_P_house) (.ref a_P_free) (.ref a_P_stuffed) (.ref a_P_after) (.ref a_P_weight) (.ref a_P_need)), (a_P_house, .inl (cI, 6, .inl P_house)), (a_P_free, .inl (cI, 6, .inl P_free)), (a_P_stuffed, .inl (cI, 6, .inl P_stuffed)), (a_P_after, .inl (cI, 6, .inl P_after)), (a_P_weight, .inl (cI, 5, .inl P_weight)), (a_P_need, .inl (cI, 5, .inl P_need)), (oX5 a_PO (.int PO_gloves) (.int PO_matters) (.int PO_pride) (.int PO_coins) (.ref a_PO_house) (.ref a_PO_free) (.ref a_PO_stuffed) (.ref a_PO_after) (.ref a_PO_weight) (.ref a_PO_need)), (a_PO_house, .inl (cI, 6, .inl PO_house)), (a_PO_free, .inl (cI, 6, .inl PO_free)), (a_PO_stuffed, .inl (cI, 6, .inl PO_stuffed)), (a_PO_after, .inl (cI, 6, .inl PO_after)), (a_PO_weight, .inl (cI, 5, .inl PO_weight)), (a_PO_need, .inl (cI, 5, .inl PO_need))] H locs := ⟨hP, hD, hS⟩
  refine lv_aload_n hx hb dX5_copyFrom_8 rfl (lv_at hl 0 rfl) ?_
  refine lv_aload_n hx hb dX5_copyFrom_9 rfl (lv_at hl 1 rfl) ?_
  refine va_get (ci := 5) (v := .int PO_matters) (C := RX5) (T := TX5) (N := 10) hx hb hts in_X5_copyFrom_X5 hown hK hw.1 7 rfl rfl 1 (by decide) (hts _ lk_X5_copyFrom_1) (fun _ h9 => h9) rfl dX5_copyFrom_10 ?_
  refine va_put (ci := 5) (v := .int PO_matters) (ty := .int) (C := RX5) (T := TX5) (N := 10) hx hb hts in_X5_copyFrom_X5 tyX5 tyX5_ok nmX5 hown hK hw.1 hw.2.1 hw.2.2 0 rfl rfl 1 (by decide) (hts _ lk_X5_copyFrom_1) (fun _ h9 => h9) rfl (by decide +kernel) rfl rfl (Nat.le_of_ble_eq_true rfl) dX5_copyFrom_13 (fun H locs hP hD hS => ?_)
  have hw : Wo D A s [(oX5 a_P (.int PO_gloves) (.int PO_matters) (.int P_pride) (.int P_coins) (.ref a_P_house) (.ref a_P_free) (.ref a_P_stuffed) (.ref a_P_after) (.ref a_P_weight) (.ref a_P_need)), (a_P_house, .inl (cI, 6, .inl P_house)), (a_P_free, .inl (cI, 6, .inl P_free)), (a_P_stuffed, .inl (cI, 6, .inl P_stuffed)), (a_P_after, .inl (cI, 6, .inl P_after)), (a_P_weight, .inl (cI, 5, .inl P_weight)), (a_P_need, .inl (cI, 5, .inl P_need)), (oX5 a_PO (.int PO_gloves) (.int PO_matters) (.int PO_pride) (.int PO_coins) (.ref a_PO_house) (.ref a_PO_free) (.ref a_PO_stuffed) (.ref a_PO_after) (.ref a_PO_weight) (.ref a_PO_need)), (a_PO_house, .inl (cI, 6, .inl PO_house)), (a_PO_free, .inl (cI, 6, .inl PO_free)), (a_PO_stuffed, .inl (cI, 6, .inl PO_stuffed)), (a_PO_after, .inl (cI, 6, .inl PO_after)), (a_PO_weight, .inl (cI, 5, .inl PO_weight)), (a_PO_need, .inl (cI, 5, .inl PO_need))] H locs := ⟨hP, hD, hS⟩
  refine lv_aload_n hx hb dX5_copyFrom_16 rfl (lv_at hl 0 rfl) ?_
  refine lv_aload_n hx hb dX5_copyFrom_17 rfl (lv_at hl 1 rfl) ?_
  refine va_get (ci := 5) (v := .int PO_pride) (C := RX5) (T := TX5) (N := 10) hx hb hts in_X5_copyFrom_X5 hown hK hw.1 7 rfl rfl 2 (by decide) (hts _ lk_X5_copyFrom_2) (fun _ h9 => h9) rfl dX5_copyFrom_18 ?_
  refine va_put (ci := 5) (v := .int PO_pride) (ty := .int) (C := RX5) (T := TX5) (N := 10) hx hb hts in_X5_copyFrom_X5 tyX5 tyX5_ok nmX5 hown hK hw.1 hw.2.1 hw.2.2 0 rfl rfl 2 (by decide) (hts _ lk_X5_copyFrom_2) (fun _ h9 => h9) rfl (by decide +kernel) rfl rfl (Nat.le_of_ble_eq_true rfl) dX5_copyFrom_21 (fun H locs hP hD hS => ?_)
  have hw : Wo D A s [(oX5 a_P (.int PO_gloves) (.int PO_matters) (.int PO_pride) (.int P_coins) (.ref a_P_house) (.ref a_P_free) (.ref a_P_stuffed) (.ref a_P_after) (.ref a_P_weight) (.ref a_P_need)), (a_P_house, .inl (cI, 6, .inl P_house)), (a_P_free, .inl (cI, 6, .inl P_free)), (a_P_stuffed, .inl (cI, 6, .inl P_stuffed)), (a_P_after, .inl (cI, 6, .inl P_after)), (a_P_weight, .inl (cI, 5, .inl P_weight)), (a_P_need, .inl (cI, 5, .inl P_need)), (oX5 a_PO (.int PO_gloves) (.int PO_matters) (.int PO_pride) (.int PO_coins) (.ref a_PO_house) (.ref a_PO_free) (.ref a_PO_stuffed) (.ref a_PO_after) (.ref a_PO_weight) (.ref a_PO_need)), (a_PO_house, .inl (cI, 6, .inl PO_house)), (a_PO_free, .inl (cI, 6, .inl PO_free)), (a_PO_stuffed, .inl (cI, 6, .inl PO_stuffed)), (a_PO_after, .inl (cI, 6, .inl PO_after)), (a_PO_weight, .inl (cI, 5, .inl PO_weight)), (a_PO_need, .inl (cI, 5, .inl PO_need))] H locs := ⟨hP, hD, hS⟩
  refine lv_aload_n hx hb dX5_copyFrom_24 rfl (lv_at hl 0 rfl) ?_
  refine lv_aload_n hx hb dX5_copyFrom_25 rfl (lv_at hl 1 rfl) ?_
  refine va_get (ci := 5) (v := .int PO_coins) (C := RX5) (T := TX5) (N := 10) hx hb hts in_X5_copyFrom_X5 hown hK hw.1 7 rfl rfl 3 (by decide) (hts _ lk_X5_copyFrom_3) (fun _ h9 => h9) rfl dX5_copyFrom_26 ?_
  refine va_put (ci := 5) (v := .int PO_coins) (ty := .int) (C := RX5) (T := TX5) (N := 10) hx hb hts in_X5_copyFrom_X5 tyX5 tyX5_ok nmX5 hown hK hw.1 hw.2.1 hw.2.2 0 rfl rfl 3 (by decide) (hts _ lk_X5_copyFrom_3) (fun _ h9 => h9) rfl (by decide +kernel) rfl rfl (Nat.le_of_ble_eq_true rfl) dX5_copyFrom_29 (fun H locs hP hD hS => ?_)
  have hw : Wo D A s [(oX5 a_P (.int PO_gloves) (.int PO_matters) (.int PO_pride) (.int PO_coins) (.ref a_P_house) (.ref a_P_free) (.ref a_P_stuffed) (.ref a_P_after) (.ref a_P_weight) (.ref a_P_need)), (a_P_house, .inl (cI, 6, .inl P_house)), (a_P_free, .inl (cI, 6, .inl P_free)), (a_P_stuffed, .inl (cI, 6, .inl P_stuffed)), (a_P_after, .inl (cI, 6, .inl P_after)), (a_P_weight, .inl (cI, 5, .inl P_weight)), (a_P_need, .inl (cI, 5, .inl P_need)), (oX5 a_PO (.int PO_gloves) (.int PO_matters) (.int PO_pride) (.int PO_coins) (.ref a_PO_house) (.ref a_PO_free) (.ref a_PO_stuffed) (.ref a_PO_after) (.ref a_PO_weight) (.ref a_PO_need)), (a_PO_house, .inl (cI, 6, .inl PO_house)), (a_PO_free, .inl (cI, 6, .inl PO_free)), (a_PO_stuffed, .inl (cI, 6, .inl PO_stuffed)), (a_PO_after, .inl (cI, 6, .inl PO_after)), (a_PO_weight, .inl (cI, 5, .inl PO_weight)), (a_PO_need, .inl (cI, 5, .inl PO_need))] H locs := ⟨hP, hD, hS⟩
  refine lv_aload_n hx hb dX5_copyFrom_32 rfl (lv_at hl 1 rfl) ?_
  refine va_get (ci := 5) (v := .ref a_PO_house) (C := RX5) (T := TX5) (N := 10) hx hb hts in_X5_copyFrom_X5 hown hK hw.1 7 rfl rfl 4 (by decide) (hts _ lk_X5_copyFrom_4) (fun _ h9 => h9) rfl dX5_copyFrom_33 ?_
  refine lv_iconst (v := (0 : Int32)) hx hb dX5_copyFrom_36 (by decide) ?_
  refine lv_aload_n hx hb dX5_copyFrom_37 rfl (lv_at hl 0 rfl) ?_
  refine va_get (ci := 5) (v := .ref a_P_house) (C := RX5) (T := TX5) (N := 10) hx hb hts in_X5_copyFrom_X5 hown hK hw.1 0 rfl rfl 4 (by decide) (hts _ lk_X5_copyFrom_4) (fun _ h9 => h9) rfl dX5_copyFrom_38 ?_
  refine lv_iconst (v := (0 : Int32)) hx hb dX5_copyFrom_41 (by decide) ?_
  refine lv_bipush (v := (6 : Int32)) hx hb dX5_copyFrom_42 (by decide) ?_
  obtain ⟨hc_1, hf⟩ := gd_some hf
  obtain ⟨hc_2, hf⟩ := gd_some hf
  obtain ⟨P_house_3, e_P_house_3, hf⟩ := bnd_some hf
  refine va_copyi hx hb (hml.trans hl.1.symm) hown (hts _ lk_X5_copyFrom_5) (hts _ lk_X5_copyFrom_6) (hts _ lk_X5_copyFrom_7) (hts _ lk_X5_copyFrom_8) hK hw.1 hw.2.1 hw.2.2 8 1 0 0 rfl rfl rfl rfl rfl (spB_sp hc_1).1 (spB_sp hc_2).1 (spB_sp hc_1).2.1 (spB_sp hc_1).2.2 (spB_sp hc_2).2.2 (fun _ _ => rfl) (Nat.le_of_ble_eq_true rfl) (Nat.le_of_ble_eq_true rfl) dX5_copyFrom_44 (fun H locs hP hD hS => ?_)
  have hw : Wo D A s [(oX5 a_P (.int PO_gloves) (.int PO_matters) (.int PO_pride) (.int PO_coins) (.ref a_P_house) (.ref a_P_free) (.ref a_P_stuffed) (.ref a_P_after) (.ref a_P_weight) (.ref a_P_need)), (a_P_house, .inl (cI, 6, .inl P_house_3)), (a_P_free, .inl (cI, 6, .inl P_free)), (a_P_stuffed, .inl (cI, 6, .inl P_stuffed)), (a_P_after, .inl (cI, 6, .inl P_after)), (a_P_weight, .inl (cI, 5, .inl P_weight)), (a_P_need, .inl (cI, 5, .inl P_need)), (oX5 a_PO (.int PO_gloves) (.int PO_matters) (.int PO_pride) (.int PO_coins) (.ref a_PO_house) (.ref a_PO_free) (.ref a_PO_stuffed) (.ref a_PO_after) (.ref a_PO_weight) (.ref a_PO_need)), (a_PO_house, .inl (cI, 6, .inl PO_house)), (a_PO_free, .inl (cI, 6, .inl PO_free)), (a_PO_stuffed, .inl (cI, 6, .inl PO_stuffed)), (a_PO_after, .inl (cI, 6, .inl PO_after)), (a_PO_weight, .inl (cI, 5, .inl PO_weight)), (a_PO_need, .inl (cI, 5, .inl PO_need))] H locs := by rw [e_P_house_3]; exact ⟨hP, hD, hS⟩
  refine lv_aload_n hx hb dX5_copyFrom_47 rfl (lv_at hl 1 rfl) ?_
  refine va_get (ci := 5) (v := .ref a_PO_free) (C := RX5) (T := TX5) (N := 10) hx hb hts in_X5_copyFrom_X5 hown hK hw.1 7 rfl rfl 5 (by decide) (hts _ lk_X5_copyFrom_9) (fun _ h9 => h9) rfl dX5_copyFrom_48 ?_
  refine lv_iconst (v := (0 : Int32)) hx hb dX5_copyFrom_51 (by decide) ?_
  refine lv_aload_n hx hb dX5_copyFrom_52 rfl (lv_at hl 0 rfl) ?_
  refine va_get (ci := 5) (v := .ref a_P_free) (C := RX5) (T := TX5) (N := 10) hx hb hts in_X5_copyFrom_X5 hown hK hw.1 0 rfl rfl 5 (by decide) (hts _ lk_X5_copyFrom_9) (fun _ h9 => h9) rfl dX5_copyFrom_53 ?_
  refine lv_iconst (v := (0 : Int32)) hx hb dX5_copyFrom_56 (by decide) ?_
  refine lv_bipush (v := (6 : Int32)) hx hb dX5_copyFrom_57 (by decide) ?_
  obtain ⟨hc_4, hf⟩ := gd_some hf
  obtain ⟨hc_5, hf⟩ := gd_some hf
  obtain ⟨P_free_6, e_P_free_6, hf⟩ := bnd_some hf
  refine va_copyi hx hb (hml.trans hl.1.symm) hown (hts _ lk_X5_copyFrom_5) (hts _ lk_X5_copyFrom_6) (hts _ lk_X5_copyFrom_7) (hts _ lk_X5_copyFrom_8) hK hw.1 hw.2.1 hw.2.2 9 2 0 0 rfl rfl rfl rfl rfl (spB_sp hc_4).1 (spB_sp hc_5).1 (spB_sp hc_4).2.1 (spB_sp hc_4).2.2 (spB_sp hc_5).2.2 (fun _ _ => rfl) (Nat.le_of_ble_eq_true rfl) (Nat.le_of_ble_eq_true rfl) dX5_copyFrom_59 (fun H locs hP hD hS => ?_)
  have hw : Wo D A s [(oX5 a_P (.int PO_gloves) (.int PO_matters) (.int PO_pride) (.int PO_coins) (.ref a_P_house) (.ref a_P_free) (.ref a_P_stuffed) (.ref a_P_after) (.ref a_P_weight) (.ref a_P_need)), (a_P_house, .inl (cI, 6, .inl P_house_3)), (a_P_free, .inl (cI, 6, .inl P_free_6)), (a_P_stuffed, .inl (cI, 6, .inl P_stuffed)), (a_P_after, .inl (cI, 6, .inl P_after)), (a_P_weight, .inl (cI, 5, .inl P_weight)), (a_P_need, .inl (cI, 5, .inl P_need)), (oX5 a_PO (.int PO_gloves) (.int PO_matters) (.int PO_pride) (.int PO_coins) (.ref a_PO_house) (.ref a_PO_free) (.ref a_PO_stuffed) (.ref a_PO_after) (.ref a_PO_weight) (.ref a_PO_need)), (a_PO_house, .inl (cI, 6, .inl PO_house)), (a_PO_free, .inl (cI, 6, .inl PO_free)), (a_PO_stuffed, .inl (cI, 6, .inl PO_stuffed)), (a_PO_after, .inl (cI, 6, .inl PO_after)), (a_PO_weight, .inl (cI, 5, .inl PO_weight)), (a_PO_need, .inl (cI, 5, .inl PO_need))] H locs := by rw [e_P_free_6]; exact ⟨hP, hD, hS⟩
  refine lv_aload_n hx hb dX5_copyFrom_62 rfl (lv_at hl 1 rfl) ?_
  refine va_get (ci := 5) (v := .ref a_PO_stuffed) (C := RX5) (T := TX5) (N := 10) hx hb hts in_X5_copyFrom_X5 hown hK hw.1 7 rfl rfl 6 (by decide) (hts _ lk_X5_copyFrom_10) (fun _ h9 => h9) rfl dX5_copyFrom_63 ?_
  refine lv_iconst (v := (0 : Int32)) hx hb dX5_copyFrom_66 (by decide) ?_
  refine lv_aload_n hx hb dX5_copyFrom_67 rfl (lv_at hl 0 rfl) ?_
  refine va_get (ci := 5) (v := .ref a_P_stuffed) (C := RX5) (T := TX5) (N := 10) hx hb hts in_X5_copyFrom_X5 hown hK hw.1 0 rfl rfl 6 (by decide) (hts _ lk_X5_copyFrom_10) (fun _ h9 => h9) rfl dX5_copyFrom_68 ?_
  refine lv_iconst (v := (0 : Int32)) hx hb dX5_copyFrom_71 (by decide) ?_
  refine lv_bipush (v := (6 : Int32)) hx hb dX5_copyFrom_72 (by decide) ?_
  obtain ⟨hc_7, hf⟩ := gd_some hf
  obtain ⟨hc_8, hf⟩ := gd_some hf
  obtain ⟨P_stuffed_9, e_P_stuffed_9, hf⟩ := bnd_some hf
  refine va_copyi hx hb (hml.trans hl.1.symm) hown (hts _ lk_X5_copyFrom_5) (hts _ lk_X5_copyFrom_6) (hts _ lk_X5_copyFrom_7) (hts _ lk_X5_copyFrom_8) hK hw.1 hw.2.1 hw.2.2 10 3 0 0 rfl rfl rfl rfl rfl (spB_sp hc_7).1 (spB_sp hc_8).1 (spB_sp hc_7).2.1 (spB_sp hc_7).2.2 (spB_sp hc_8).2.2 (fun _ _ => rfl) (Nat.le_of_ble_eq_true rfl) (Nat.le_of_ble_eq_true rfl) dX5_copyFrom_74 (fun H locs hP hD hS => ?_)
  have hw : Wo D A s [(oX5 a_P (.int PO_gloves) (.int PO_matters) (.int PO_pride) (.int PO_coins) (.ref a_P_house) (.ref a_P_free) (.ref a_P_stuffed) (.ref a_P_after) (.ref a_P_weight) (.ref a_P_need)), (a_P_house, .inl (cI, 6, .inl P_house_3)), (a_P_free, .inl (cI, 6, .inl P_free_6)), (a_P_stuffed, .inl (cI, 6, .inl P_stuffed_9)), (a_P_after, .inl (cI, 6, .inl P_after)), (a_P_weight, .inl (cI, 5, .inl P_weight)), (a_P_need, .inl (cI, 5, .inl P_need)), (oX5 a_PO (.int PO_gloves) (.int PO_matters) (.int PO_pride) (.int PO_coins) (.ref a_PO_house) (.ref a_PO_free) (.ref a_PO_stuffed) (.ref a_PO_after) (.ref a_PO_weight) (.ref a_PO_need)), (a_PO_house, .inl (cI, 6, .inl PO_house)), (a_PO_free, .inl (cI, 6, .inl PO_free)), (a_PO_stuffed, .inl (cI, 6, .inl PO_stuffed)), (a_PO_after, .inl (cI, 6, .inl PO_after)), (a_PO_weight, .inl (cI, 5, .inl PO_weight)), (a_PO_need, .inl (cI, 5, .inl PO_need))] H locs := by rw [e_P_stuffed_9]; exact ⟨hP, hD, hS⟩
  refine lv_aload_n hx hb dX5_copyFrom_77 rfl (lv_at hl 1 rfl) ?_
  refine va_get (ci := 5) (v := .ref a_PO_after) (C := RX5) (T := TX5) (N := 10) hx hb hts in_X5_copyFrom_X5 hown hK hw.1 7 rfl rfl 7 (by decide) (hts _ lk_X5_copyFrom_11) (fun _ h9 => h9) rfl dX5_copyFrom_78 ?_
  refine lv_iconst (v := (0 : Int32)) hx hb dX5_copyFrom_81 (by decide) ?_
  refine lv_aload_n hx hb dX5_copyFrom_82 rfl (lv_at hl 0 rfl) ?_
  refine va_get (ci := 5) (v := .ref a_P_after) (C := RX5) (T := TX5) (N := 10) hx hb hts in_X5_copyFrom_X5 hown hK hw.1 0 rfl rfl 7 (by decide) (hts _ lk_X5_copyFrom_11) (fun _ h9 => h9) rfl dX5_copyFrom_83 ?_
  refine lv_iconst (v := (0 : Int32)) hx hb dX5_copyFrom_86 (by decide) ?_
  refine lv_bipush (v := (6 : Int32)) hx hb dX5_copyFrom_87 (by decide) ?_
  obtain ⟨hc_10, hf⟩ := gd_some hf
  obtain ⟨hc_11, hf⟩ := gd_some hf
  obtain ⟨P_after_12, e_P_after_12, hf⟩ := bnd_some hf
  refine va_copyi hx hb (hml.trans hl.1.symm) hown (hts _ lk_X5_copyFrom_5) (hts _ lk_X5_copyFrom_6) (hts _ lk_X5_copyFrom_7) (hts _ lk_X5_copyFrom_8) hK hw.1 hw.2.1 hw.2.2 11 4 0 0 rfl rfl rfl rfl rfl (spB_sp hc_10).1 (spB_sp hc_11).1 (spB_sp hc_10).2.1 (spB_sp hc_10).2.2 (spB_sp hc_11).2.2 (fun _ _ => rfl) (Nat.le_of_ble_eq_true rfl) (Nat.le_of_ble_eq_true rfl) dX5_copyFrom_89 (fun H locs hP hD hS => ?_)
  have hw : Wo D A s [(oX5 a_P (.int PO_gloves) (.int PO_matters) (.int PO_pride) (.int PO_coins) (.ref a_P_house) (.ref a_P_free) (.ref a_P_stuffed) (.ref a_P_after) (.ref a_P_weight) (.ref a_P_need)), (a_P_house, .inl (cI, 6, .inl P_house_3)), (a_P_free, .inl (cI, 6, .inl P_free_6)), (a_P_stuffed, .inl (cI, 6, .inl P_stuffed_9)), (a_P_after, .inl (cI, 6, .inl P_after_12)), (a_P_weight, .inl (cI, 5, .inl P_weight)), (a_P_need, .inl (cI, 5, .inl P_need)), (oX5 a_PO (.int PO_gloves) (.int PO_matters) (.int PO_pride) (.int PO_coins) (.ref a_PO_house) (.ref a_PO_free) (.ref a_PO_stuffed) (.ref a_PO_after) (.ref a_PO_weight) (.ref a_PO_need)), (a_PO_house, .inl (cI, 6, .inl PO_house)), (a_PO_free, .inl (cI, 6, .inl PO_free)), (a_PO_stuffed, .inl (cI, 6, .inl PO_stuffed)), (a_PO_after, .inl (cI, 6, .inl PO_after)), (a_PO_weight, .inl (cI, 5, .inl PO_weight)), (a_PO_need, .inl (cI, 5, .inl PO_need))] H locs := by rw [e_P_after_12]; exact ⟨hP, hD, hS⟩
  refine lv_aload_n hx hb dX5_copyFrom_92 rfl (lv_at hl 1 rfl) ?_
  refine va_get (ci := 5) (v := .ref a_PO_weight) (C := RX5) (T := TX5) (N := 10) hx hb hts in_X5_copyFrom_X5 hown hK hw.1 7 rfl rfl 8 (by decide) (hts _ lk_X5_copyFrom_12) (fun _ h9 => h9) rfl dX5_copyFrom_93 ?_
  refine lv_iconst (v := (0 : Int32)) hx hb dX5_copyFrom_96 (by decide) ?_
  refine lv_aload_n hx hb dX5_copyFrom_97 rfl (lv_at hl 0 rfl) ?_
  refine va_get (ci := 5) (v := .ref a_P_weight) (C := RX5) (T := TX5) (N := 10) hx hb hts in_X5_copyFrom_X5 hown hK hw.1 0 rfl rfl 8 (by decide) (hts _ lk_X5_copyFrom_12) (fun _ h9 => h9) rfl dX5_copyFrom_98 ?_
  refine lv_iconst (v := (0 : Int32)) hx hb dX5_copyFrom_101 (by decide) ?_
  refine lv_iconst (v := (5 : Int32)) hx hb dX5_copyFrom_102 (by decide) ?_
  obtain ⟨hc_13, hf⟩ := gd_some hf
  obtain ⟨hc_14, hf⟩ := gd_some hf
  obtain ⟨P_weight_15, e_P_weight_15, hf⟩ := bnd_some hf
  refine va_copyi hx hb (hml.trans hl.1.symm) hown (hts _ lk_X5_copyFrom_5) (hts _ lk_X5_copyFrom_6) (hts _ lk_X5_copyFrom_7) (hts _ lk_X5_copyFrom_8) hK hw.1 hw.2.1 hw.2.2 12 5 0 0 rfl rfl rfl rfl rfl (spB_sp hc_13).1 (spB_sp hc_14).1 (spB_sp hc_13).2.1 (spB_sp hc_13).2.2 (spB_sp hc_14).2.2 (fun _ _ => rfl) (Nat.le_of_ble_eq_true rfl) (Nat.le_of_ble_eq_true rfl) dX5_copyFrom_103 (fun H locs hP hD hS => ?_)
  have hw : Wo D A s [(oX5 a_P (.int PO_gloves) (.int PO_matters) (.int PO_pride) (.int PO_coins) (.ref a_P_house) (.ref a_P_free) (.ref a_P_stuffed) (.ref a_P_after) (.ref a_P_weight) (.ref a_P_need)), (a_P_house, .inl (cI, 6, .inl P_house_3)), (a_P_free, .inl (cI, 6, .inl P_free_6)), (a_P_stuffed, .inl (cI, 6, .inl P_stuffed_9)), (a_P_after, .inl (cI, 6, .inl P_after_12)), (a_P_weight, .inl (cI, 5, .inl P_weight_15)), (a_P_need, .inl (cI, 5, .inl P_need)), (oX5 a_PO (.int PO_gloves) (.int PO_matters) (.int PO_pride) (.int PO_coins) (.ref a_PO_house) (.ref a_PO_free) (.ref a_PO_stuffed) (.ref a_PO_after) (.ref a_PO_weight) (.ref a_PO_need)), (a_PO_house, .inl (cI, 6, .inl PO_house)), (a_PO_free, .inl (cI, 6, .inl PO_free)), (a_PO_stuffed, .inl (cI, 6, .inl PO_stuffed)), (a_PO_after, .inl (cI, 6, .inl PO_after)), (a_PO_weight, .inl (cI, 5, .inl PO_weight)), (a_PO_need, .inl (cI, 5, .inl PO_need))] H locs := by rw [e_P_weight_15]; exact ⟨hP, hD, hS⟩
  refine lv_aload_n hx hb dX5_copyFrom_106 rfl (lv_at hl 1 rfl) ?_
  refine va_get (ci := 5) (v := .ref a_PO_need) (C := RX5) (T := TX5) (N := 10) hx hb hts in_X5_copyFrom_X5 hown hK hw.1 7 rfl rfl 9 (by decide) (hts _ lk_X5_copyFrom_13) (fun _ h9 => h9) rfl dX5_copyFrom_107 ?_
  refine lv_iconst (v := (0 : Int32)) hx hb dX5_copyFrom_110 (by decide) ?_
  refine lv_aload_n hx hb dX5_copyFrom_111 rfl (lv_at hl 0 rfl) ?_
  refine va_get (ci := 5) (v := .ref a_P_need) (C := RX5) (T := TX5) (N := 10) hx hb hts in_X5_copyFrom_X5 hown hK hw.1 0 rfl rfl 9 (by decide) (hts _ lk_X5_copyFrom_13) (fun _ h9 => h9) rfl dX5_copyFrom_112 ?_
  refine lv_iconst (v := (0 : Int32)) hx hb dX5_copyFrom_115 (by decide) ?_
  refine lv_iconst (v := (5 : Int32)) hx hb dX5_copyFrom_116 (by decide) ?_
  obtain ⟨hc_16, hf⟩ := gd_some hf
  obtain ⟨hc_17, hf⟩ := gd_some hf
  obtain ⟨P_need_18, e_P_need_18, hf⟩ := bnd_some hf
  refine va_copyi hx hb (hml.trans hl.1.symm) hown (hts _ lk_X5_copyFrom_5) (hts _ lk_X5_copyFrom_6) (hts _ lk_X5_copyFrom_7) (hts _ lk_X5_copyFrom_8) hK hw.1 hw.2.1 hw.2.2 13 6 0 0 rfl rfl rfl rfl rfl (spB_sp hc_16).1 (spB_sp hc_17).1 (spB_sp hc_16).2.1 (spB_sp hc_16).2.2 (spB_sp hc_17).2.2 (fun _ _ => rfl) (Nat.le_of_ble_eq_true rfl) (Nat.le_of_ble_eq_true rfl) dX5_copyFrom_117 (fun H locs hP hD hS => ?_)
  have hw : Wo D A s [(oX5 a_P (.int PO_gloves) (.int PO_matters) (.int PO_pride) (.int PO_coins) (.ref a_P_house) (.ref a_P_free) (.ref a_P_stuffed) (.ref a_P_after) (.ref a_P_weight) (.ref a_P_need)), (a_P_house, .inl (cI, 6, .inl P_house_3)), (a_P_free, .inl (cI, 6, .inl P_free_6)), (a_P_stuffed, .inl (cI, 6, .inl P_stuffed_9)), (a_P_after, .inl (cI, 6, .inl P_after_12)), (a_P_weight, .inl (cI, 5, .inl P_weight_15)), (a_P_need, .inl (cI, 5, .inl P_need_18)), (oX5 a_PO (.int PO_gloves) (.int PO_matters) (.int PO_pride) (.int PO_coins) (.ref a_PO_house) (.ref a_PO_free) (.ref a_PO_stuffed) (.ref a_PO_after) (.ref a_PO_weight) (.ref a_PO_need)), (a_PO_house, .inl (cI, 6, .inl PO_house)), (a_PO_free, .inl (cI, 6, .inl PO_free)), (a_PO_stuffed, .inl (cI, 6, .inl PO_stuffed)), (a_PO_after, .inl (cI, 6, .inl PO_after)), (a_PO_weight, .inl (cI, 5, .inl PO_weight)), (a_PO_need, .inl (cI, 5, .inl PO_need))] H locs := by rw [e_P_need_18]; exact ⟨hP, hD, hS⟩
  cases hf
  exact retV C hw dX5_copyFrom_120
set_option maxHeartbeats 4000000 in
set_option maxRecDepth 100000 in
theorem k_X5_copyFrom {l : Launch} {sx : List sx_T} {D : va_G} {cI cZ cO : ClassId} (a_P : Nat) (a_P_house : Nat) (a_P_free : Nat) (a_P_stuffed : Nat) (a_P_after : Nat) (a_P_weight : Nat) (a_P_need : Nat) (a_PO : Nat) (a_PO_house : Nat) (a_PO_free : Nat) (a_PO_stuffed : Nat) (a_PO_after : Nat) (a_PO_weight : Nat) (a_PO_need : Nat) (PO_gloves : Int32) (PO_matters : Int32) (PO_pride : Int32) (PO_coins : Int32) (PO_house : Nat → Int32) (PO_free : Nat → Int32) (PO_stuffed : Nat → Int32) (PO_after : Nat → Int32) (PO_weight : Nat → Int32) (PO_need : Nat → Int32) (o_P_gloves : Int32) (o_P_matters : Int32) (o_P_pride : Int32) (o_P_coins : Int32) (o_P_house : Nat → Int32) (o_P_free : Nat → Int32) (o_P_stuffed : Nat → Int32) (o_P_after : Nat → Int32) (o_P_weight : Nat → Int32) (o_P_need : Nat → Int32) (P_gloves : Int32) (P_matters : Int32) (P_pride : Int32) (P_coins : Int32) (P_house : Nat → Int32) (P_free : Nat → Int32) (P_stuffed : Nat → Int32) (P_after : Nat → Int32) (P_weight : Nat → Int32) (P_need : Nat → Int32) (hF : f_X5_copyFrom PO_gloves PO_matters PO_pride PO_coins PO_house PO_free PO_stuffed PO_after PO_weight PO_need P_gloves P_matters P_pride P_coins P_house P_free P_stuffed P_after P_weight P_need = some (o_P_gloves, o_P_matters, o_P_pride, o_P_coins, o_P_house, o_P_free, o_P_stuffed, o_P_after, o_P_weight, o_P_need)) : CtV l yX5_copyFrom wsX5_copyFrom rm_X5_copyFrom sx D (tyL cI cZ cO) [.ref a_P, .ref a_PO] [(oX5 a_P (.int P_gloves) (.int P_matters) (.int P_pride) (.int P_coins) (.ref a_P_house) (.ref a_P_free) (.ref a_P_stuffed) (.ref a_P_after) (.ref a_P_weight) (.ref a_P_need)), (a_P_house, .inl (cI, 6, .inl P_house)), (a_P_free, .inl (cI, 6, .inl P_free)), (a_P_stuffed, .inl (cI, 6, .inl P_stuffed)), (a_P_after, .inl (cI, 6, .inl P_after)), (a_P_weight, .inl (cI, 5, .inl P_weight)), (a_P_need, .inl (cI, 5, .inl P_need)), (oX5 a_PO (.int PO_gloves) (.int PO_matters) (.int PO_pride) (.int PO_coins) (.ref a_PO_house) (.ref a_PO_free) (.ref a_PO_stuffed) (.ref a_PO_after) (.ref a_PO_weight) (.ref a_PO_need)), (a_PO_house, .inl (cI, 6, .inl PO_house)), (a_PO_free, .inl (cI, 6, .inl PO_free)), (a_PO_stuffed, .inl (cI, 6, .inl PO_stuffed)), (a_PO_after, .inl (cI, 6, .inl PO_after)), (a_PO_weight, .inl (cI, 5, .inl PO_weight)), (a_PO_need, .inl (cI, 5, .inl PO_need))] [(oX5 a_P (.int o_P_gloves) (.int o_P_matters) (.int o_P_pride) (.int o_P_coins) (.ref a_P_house) (.ref a_P_free) (.ref a_P_stuffed) (.ref a_P_after) (.ref a_P_weight) (.ref a_P_need)), (a_P_house, .inl (cI, 6, .inl o_P_house)), (a_P_free, .inl (cI, 6, .inl o_P_free)), (a_P_stuffed, .inl (cI, 6, .inl o_P_stuffed)), (a_P_after, .inl (cI, 6, .inl o_P_after)), (a_P_weight, .inl (cI, 5, .inl o_P_weight)), (a_P_need, .inl (cI, 5, .inl o_P_need)), (oX5 a_PO (.int PO_gloves) (.int PO_matters) (.int PO_pride) (.int PO_coins) (.ref a_PO_house) (.ref a_PO_free) (.ref a_PO_stuffed) (.ref a_PO_after) (.ref a_PO_weight) (.ref a_PO_need)), (a_PO_house, .inl (cI, 6, .inl PO_house)), (a_PO_free, .inl (cI, 6, .inl PO_free)), (a_PO_stuffed, .inl (cI, 6, .inl PO_stuffed)), (a_PO_after, .inl (cI, 6, .inl PO_after)), (a_PO_weight, .inl (cI, 5, .inl PO_weight)), (a_PO_need, .inl (cI, 5, .inl PO_need))] := by
  refine ctV_of (cc := cX5_copyFrom) (ret := none) (maxL := 2) (by decide) rfl (Nat.le_of_ble_eq_true rfl) ?_
  intro p e s m below meth c A ls C K hw hl
  exact q_X5_copyFrom_0 C K a_P a_P_house a_P_free a_P_stuffed a_P_after a_P_weight a_P_need a_PO a_PO_house a_PO_free a_PO_stuffed a_PO_after a_PO_weight a_PO_need PO_gloves PO_matters PO_pride PO_coins PO_house PO_free PO_stuffed PO_after PO_weight PO_need o_P_gloves o_P_matters o_P_pride o_P_coins o_P_house o_P_free o_P_stuffed o_P_after o_P_weight o_P_need P_gloves P_matters P_pride P_coins P_house P_free P_stuffed P_after P_weight P_need hF hw (lv_sub hl [0, 1] rfl)
abbrev rm_X5_hasGlove : Room := { frames := 0, cells := 0, slots := 0, locals := 0 }
theorem in_X5_hasGlove_X5 : ∀ w ∈ u_ws RX5 TX5 10, w ∈ wsX5_hasGlove := fun w h => List.mem_cons_of_mem _ (bi_wsX50 w h)
theorem lk_X5_hasGlove_0 : Cond.fieldLink RX5 30 "GloveHouses$Peace" "gloves" "I" ∈ wsX5_hasGlove := List.mem_cons_of_mem _ (bi_wsL_law0_r12 _ (List.mem_of_getElem? (i := 8) rfl))
set_option maxHeartbeats 4000000 in
set_option maxRecDepth 100000 in
theorem q_X5_hasGlove_0 {p : Program} {l : Launch} {e : Env} {s : State} {m : MethodId} {args : Array Value} {below : List Frame} {meth : Method} {c : Code} {sx : List sx_T} {D : va_G} {cI cZ cO : ClassId} {A : Nat → Prop} (C : Cx p s m args meth c RX5 wsX5_hasGlove cX5_hasGlove 2 (some .boolean)) (K : Kx sx D (tyL cI cZ cO) A s) (a_P : Nat) (a_P_house : Nat) (a_P_free : Nat) (a_P_stuffed : Nat) (a_P_after : Nat) (a_P_weight : Nat) (a_P_need : Nat) (P_gloves : Int32) (P_matters : Int32) (P_pride : Int32) (P_coins : Int32) (r0 : Int32)    (v1 : Int32) {H : Heap} {locs : List Loc} {ls : Array Slot} (hf : b_X5_hasGlove_0 P_gloves  v1 = some r0) (hw : Wo D A s [(oX5 a_P (.int P_gloves) (.int P_matters) (.int P_pride) (.int P_coins) (.ref a_P_house) (.ref a_P_free) (.ref a_P_stuffed) (.ref a_P_after) (.ref a_P_weight) (.ref a_P_need))] H locs) (hl : lv_has ls 2 [(0, .ref a_P), (1, .int v1)]) : W p l e rm_X5_hasGlove s m args below meth c H locs 0 0 (MQ below (QcI D A r0 [(oX5 a_P (.int P_gloves) (.int P_matters) (.int P_pride) (.int P_coins) (.ref a_P_house) (.ref a_P_free) (.ref a_P_stuffed) (.ref a_P_after) (.ref a_P_weight) (.ref a_P_need))]) args s 0 0 A) (F0 m 0 ls []) := by
  obtain ⟨hx, hb, hml, hown, hts, hr, hlk⟩ := id C
  obtain ⟨hK, hX, hA⟩ := id K
  unfold b_X5_hasGlove_0 at hf
  refine lv_iload_n hx hb dX5_hasGlove_0 rfl (lv_at hl 1 rfl) ?_
  refine lv_if_lt (tgt := 16) hx hb dX5_hasGlove_1 (by decide) (fun hc => ?_) (fun hc => ?_)
  · have hf := (if_pos hc).symm.trans hf
    refine lv_iconst (v := (0 : Int32)) hx hb dX5_hasGlove_16 (by decide) ?_
    cases hf
    exact retZ C hw dX5_hasGlove_17 (by decide) rfl
  · have hf := (if_neg hc).symm.trans hf
    refine lv_iload_n hx hb dX5_hasGlove_4 rfl (lv_at hl 1 rfl) ?_
    refine lv_aload_n hx hb dX5_hasGlove_5 rfl (lv_at hl 0 rfl) ?_
    refine va_get (ci := 5) (v := .int P_gloves) (C := RX5) (T := TX5) (N := 10) hx hb hts in_X5_hasGlove_X5 hown hK hw.1 0 rfl rfl 0 (by decide) (hts _ lk_X5_hasGlove_0) (fun _ h9 => h9) rfl dX5_hasGlove_6 ?_
    refine lv_icmp_ge (tgt := 16) hx hb dX5_hasGlove_9 (by decide) (fun hc => ?_) (fun hc => ?_)
    · have hf := (if_pos hc).symm.trans hf
      refine lv_iconst (v := (0 : Int32)) hx hb dX5_hasGlove_16 (by decide) ?_
      cases hf
      exact retZ C hw dX5_hasGlove_17 (by decide) rfl
    · have hf := (if_neg hc).symm.trans hf
      refine lv_iconst (v := (1 : Int32)) hx hb dX5_hasGlove_12 (by decide) ?_
      refine lv_goto (tgt := 17) hx hb dX5_hasGlove_13 (by decide) ?_
      cases hf
      exact retZ C hw dX5_hasGlove_17 (by decide) rfl
set_option maxHeartbeats 4000000 in
set_option maxRecDepth 100000 in
theorem k_X5_hasGlove {l : Launch} {sx : List sx_T} {D : va_G} {cI cZ cO : ClassId} (a_P : Nat) (a_P_house : Nat) (a_P_free : Nat) (a_P_stuffed : Nat) (a_P_after : Nat) (a_P_weight : Nat) (a_P_need : Nat) (P_gloves : Int32) (P_matters : Int32) (P_pride : Int32) (P_coins : Int32) (r0 : Int32) (p1 : Int32) (hF : f_X5_hasGlove P_gloves p1 = some r0) : CtI l yX5_hasGlove wsX5_hasGlove rm_X5_hasGlove sx D (tyL cI cZ cO) [.ref a_P, .int p1] [(oX5 a_P (.int P_gloves) (.int P_matters) (.int P_pride) (.int P_coins) (.ref a_P_house) (.ref a_P_free) (.ref a_P_stuffed) (.ref a_P_after) (.ref a_P_weight) (.ref a_P_need))] r0 [(oX5 a_P (.int P_gloves) (.int P_matters) (.int P_pride) (.int P_coins) (.ref a_P_house) (.ref a_P_free) (.ref a_P_stuffed) (.ref a_P_after) (.ref a_P_weight) (.ref a_P_need))] := by
  refine ctI_of (cc := cX5_hasGlove) (ret := (some .boolean)) (maxL := 2) (by decide) rfl (Nat.le_of_ble_eq_true rfl) ?_
  intro p e s m below meth c A ls C K hw hl
  exact q_X5_hasGlove_0 C K a_P a_P_house a_P_free a_P_stuffed a_P_after a_P_weight a_P_need P_gloves P_matters P_pride P_coins r0 p1 hF hw (lv_sub hl [0, 1] rfl)
abbrev rm_X5_hasMatter : Room := { frames := 0, cells := 0, slots := 0, locals := 0 }
theorem in_X5_hasMatter_X5 : ∀ w ∈ u_ws RX5 TX5 10, w ∈ wsX5_hasMatter := fun w h => List.mem_cons_of_mem _ (bi_wsX50 w h)
theorem lk_X5_hasMatter_0 : Cond.fieldLink RX5 34 "GloveHouses$Peace" "matters" "I" ∈ wsX5_hasMatter := List.mem_cons_of_mem _ (bi_wsL_law0_r20 _ (List.mem_of_getElem? (i := 17) rfl))
set_option maxHeartbeats 4000000 in
set_option maxRecDepth 100000 in
theorem q_X5_hasMatter_0 {p : Program} {l : Launch} {e : Env} {s : State} {m : MethodId} {args : Array Value} {below : List Frame} {meth : Method} {c : Code} {sx : List sx_T} {D : va_G} {cI cZ cO : ClassId} {A : Nat → Prop} (C : Cx p s m args meth c RX5 wsX5_hasMatter cX5_hasMatter 2 (some .boolean)) (K : Kx sx D (tyL cI cZ cO) A s) (a_P : Nat) (a_P_house : Nat) (a_P_free : Nat) (a_P_stuffed : Nat) (a_P_after : Nat) (a_P_weight : Nat) (a_P_need : Nat) (P_gloves : Int32) (P_matters : Int32) (P_pride : Int32) (P_coins : Int32) (r0 : Int32)    (v1 : Int32) {H : Heap} {locs : List Loc} {ls : Array Slot} (hf : b_X5_hasMatter_0 P_matters  v1 = some r0) (hw : Wo D A s [(oX5 a_P (.int P_gloves) (.int P_matters) (.int P_pride) (.int P_coins) (.ref a_P_house) (.ref a_P_free) (.ref a_P_stuffed) (.ref a_P_after) (.ref a_P_weight) (.ref a_P_need))] H locs) (hl : lv_has ls 2 [(0, .ref a_P), (1, .int v1)]) : W p l e rm_X5_hasMatter s m args below meth c H locs 0 0 (MQ below (QcI D A r0 [(oX5 a_P (.int P_gloves) (.int P_matters) (.int P_pride) (.int P_coins) (.ref a_P_house) (.ref a_P_free) (.ref a_P_stuffed) (.ref a_P_after) (.ref a_P_weight) (.ref a_P_need))]) args s 0 0 A) (F0 m 0 ls []) := by
  obtain ⟨hx, hb, hml, hown, hts, hr, hlk⟩ := id C
  obtain ⟨hK, hX, hA⟩ := id K
  unfold b_X5_hasMatter_0 at hf
  refine lv_iload_n hx hb dX5_hasMatter_0 rfl (lv_at hl 1 rfl) ?_
  refine lv_if_lt (tgt := 16) hx hb dX5_hasMatter_1 (by decide) (fun hc => ?_) (fun hc => ?_)
  · have hf := (if_pos hc).symm.trans hf
    refine lv_iconst (v := (0 : Int32)) hx hb dX5_hasMatter_16 (by decide) ?_
    cases hf
    exact retZ C hw dX5_hasMatter_17 (by decide) rfl
  · have hf := (if_neg hc).symm.trans hf
    refine lv_iload_n hx hb dX5_hasMatter_4 rfl (lv_at hl 1 rfl) ?_
    refine lv_aload_n hx hb dX5_hasMatter_5 rfl (lv_at hl 0 rfl) ?_
    refine va_get (ci := 5) (v := .int P_matters) (C := RX5) (T := TX5) (N := 10) hx hb hts in_X5_hasMatter_X5 hown hK hw.1 0 rfl rfl 1 (by decide) (hts _ lk_X5_hasMatter_0) (fun _ h9 => h9) rfl dX5_hasMatter_6 ?_
    refine lv_icmp_ge (tgt := 16) hx hb dX5_hasMatter_9 (by decide) (fun hc => ?_) (fun hc => ?_)
    · have hf := (if_pos hc).symm.trans hf
      refine lv_iconst (v := (0 : Int32)) hx hb dX5_hasMatter_16 (by decide) ?_
      cases hf
      exact retZ C hw dX5_hasMatter_17 (by decide) rfl
    · have hf := (if_neg hc).symm.trans hf
      refine lv_iconst (v := (1 : Int32)) hx hb dX5_hasMatter_12 (by decide) ?_
      refine lv_goto (tgt := 17) hx hb dX5_hasMatter_13 (by decide) ?_
      cases hf
      exact retZ C hw dX5_hasMatter_17 (by decide) rfl
set_option maxHeartbeats 4000000 in
set_option maxRecDepth 100000 in
theorem k_X5_hasMatter {l : Launch} {sx : List sx_T} {D : va_G} {cI cZ cO : ClassId} (a_P : Nat) (a_P_house : Nat) (a_P_free : Nat) (a_P_stuffed : Nat) (a_P_after : Nat) (a_P_weight : Nat) (a_P_need : Nat) (P_gloves : Int32) (P_matters : Int32) (P_pride : Int32) (P_coins : Int32) (r0 : Int32) (p1 : Int32) (hF : f_X5_hasMatter P_matters p1 = some r0) : CtI l yX5_hasMatter wsX5_hasMatter rm_X5_hasMatter sx D (tyL cI cZ cO) [.ref a_P, .int p1] [(oX5 a_P (.int P_gloves) (.int P_matters) (.int P_pride) (.int P_coins) (.ref a_P_house) (.ref a_P_free) (.ref a_P_stuffed) (.ref a_P_after) (.ref a_P_weight) (.ref a_P_need))] r0 [(oX5 a_P (.int P_gloves) (.int P_matters) (.int P_pride) (.int P_coins) (.ref a_P_house) (.ref a_P_free) (.ref a_P_stuffed) (.ref a_P_after) (.ref a_P_weight) (.ref a_P_need))] := by
  refine ctI_of (cc := cX5_hasMatter) (ret := (some .boolean)) (maxL := 2) (by decide) rfl (Nat.le_of_ble_eq_true rfl) ?_
  intro p e s m below meth c A ls C K hw hl
  exact q_X5_hasMatter_0 C K a_P a_P_house a_P_free a_P_stuffed a_P_after a_P_weight a_P_need P_gloves P_matters P_pride P_coins r0 p1 hF hw (lv_sub hl [0, 1] rfl)
abbrev rm_X5_unlike : Room := { frames := 1, cells := 0, slots := 0, locals := 21 }
theorem in_X5_unlike_X5 : ∀ w ∈ u_ws RX5 TX5 10, w ∈ wsX5_unlike := fun w h => List.mem_cons_of_mem _ (bi_wsX50 w h)
theorem lk_X5_unlike_0 : Cond.fieldLink RX5 9 "GloveHouses$Peace" "house" "[I" ∈ wsX5_unlike := List.mem_cons_of_mem _ (bi_wsL_law0_r4 _ (List.mem_of_getElem? (i := 9) rfl))
set_option maxHeartbeats 4000000 in
set_option maxRecDepth 100000 in
theorem q_X5_unlike_0 {p : Program} {l : Launch} {e : Env} {s : State} {m : MethodId} {args : Array Value} {below : List Frame} {meth : Method} {c : Code} {sx : List sx_T} {D : va_G} {cI cZ cO : ClassId} {A : Nat → Prop} (C : Cx p s m args meth c RX5 wsX5_unlike cX5_unlike 3 (some .boolean)) (K : Kx sx D (tyL cI cZ cO) A s) (a_P : Nat) (a_P_house : Nat) (a_P_free : Nat) (a_P_stuffed : Nat) (a_P_after : Nat) (a_P_weight : Nat) (a_P_need : Nat) (P_gloves : Int32) (P_matters : Int32) (P_pride : Int32) (P_coins : Int32) (P_house : Nat → Int32) (r0 : Int32)    (v1 : Int32) (v2 : Int32) {H : Heap} {locs : List Loc} {ls : Array Slot} (hf : b_X5_unlike_0 P_gloves P_house  v1 v2 = some r0) (hw : Wo D A s [(oX5 a_P (.int P_gloves) (.int P_matters) (.int P_pride) (.int P_coins) (.ref a_P_house) (.ref a_P_free) (.ref a_P_stuffed) (.ref a_P_after) (.ref a_P_weight) (.ref a_P_need)), (a_P_house, .inl (cI, 6, .inl P_house))] H locs) (hl : lv_has ls 3 [(0, .ref a_P), (1, .int v1), (2, .int v2)]) : W p l e rm_X5_unlike s m args below meth c H locs 0 0 (MQ below (QcI D A r0 [(oX5 a_P (.int P_gloves) (.int P_matters) (.int P_pride) (.int P_coins) (.ref a_P_house) (.ref a_P_free) (.ref a_P_stuffed) (.ref a_P_after) (.ref a_P_weight) (.ref a_P_need)), (a_P_house, .inl (cI, 6, .inl P_house))]) args s 0 0 A) (F0 m 0 ls []) := by
  obtain ⟨hx, hb, hml, hown, hts, hr, hlk⟩ := id C
  obtain ⟨hK, hX, hA⟩ := id K
  unfold b_X5_unlike_0 at hf
  refine lv_aload_n hx hb dX5_unlike_0 rfl (lv_at hl 0 rfl) ?_
  refine lv_iload_n hx hb dX5_unlike_1 rfl (lv_at hl 1 rfl) ?_
  obtain ⟨r_1, hg_2, hf⟩ := ob1_some hf
  refine cl_ViA (As := [.int v1]) (rest := []) C K hw (k_X5_hasGlove a_P a_P_house a_P_free a_P_stuffed a_P_after a_P_weight a_P_need P_gloves P_matters P_pride P_coins r_1 v1 hg_2) [0] rfl (by decide) rfl rfl (ci := 5) (j := 0) rfl rfl (cwV 1 hts gX5_unlike_X5_hasGlove rfl rfl rfl (by decide +kernel) ⟨Nat.le_of_ble_eq_true rfl, Nat.le_of_ble_eq_true rfl⟩) rfl hl rfl (Nat.le_of_ble_eq_true rfl) dX5_unlike_2 ⟨Nat.zero_le _, Nat.zero_le _⟩ (fun H locs hw => ?_)
  have hw : Wo D A s [(oX5 a_P (.int P_gloves) (.int P_matters) (.int P_pride) (.int P_coins) (.ref a_P_house) (.ref a_P_free) (.ref a_P_stuffed) (.ref a_P_after) (.ref a_P_weight) (.ref a_P_need)), (a_P_house, .inl (cI, 6, .inl P_house))] H locs := hw
  refine lv_if_eq (tgt := 35) hx hb dX5_unlike_5 (by decide) (fun hc => ?_) (fun hc => ?_)
  · have hf := (if_pos hc).symm.trans hf
    refine lv_iconst (v := (0 : Int32)) hx hb dX5_unlike_35 (by decide) ?_
    cases hf
    exact retZ C hw dX5_unlike_36 (by decide) rfl
  · have hf := (if_neg hc).symm.trans hf
    refine lv_aload_n hx hb dX5_unlike_8 rfl (lv_at hl 0 rfl) ?_
    refine lv_iload_n hx hb dX5_unlike_9 rfl (lv_at hl 2 rfl) ?_
    obtain ⟨r_3, hg_4, hf⟩ := ob1_some hf
    refine cl_ViA (As := [.int v2]) (rest := []) C K hw (k_X5_hasGlove a_P a_P_house a_P_free a_P_stuffed a_P_after a_P_weight a_P_need P_gloves P_matters P_pride P_coins r_3 v2 hg_4) [0] rfl (by decide) rfl rfl (ci := 5) (j := 0) rfl rfl (cwV 1 hts gX5_unlike_X5_hasGlove rfl rfl rfl (by decide +kernel) ⟨Nat.le_of_ble_eq_true rfl, Nat.le_of_ble_eq_true rfl⟩) rfl hl rfl (Nat.le_of_ble_eq_true rfl) dX5_unlike_10 ⟨Nat.zero_le _, Nat.zero_le _⟩ (fun H locs hw => ?_)
    have hw : Wo D A s [(oX5 a_P (.int P_gloves) (.int P_matters) (.int P_pride) (.int P_coins) (.ref a_P_house) (.ref a_P_free) (.ref a_P_stuffed) (.ref a_P_after) (.ref a_P_weight) (.ref a_P_need)), (a_P_house, .inl (cI, 6, .inl P_house))] H locs := hw
    refine lv_if_eq (tgt := 35) hx hb dX5_unlike_13 (by decide) (fun hc => ?_) (fun hc => ?_)
    · have hf := (if_pos hc).symm.trans hf
      refine lv_iconst (v := (0 : Int32)) hx hb dX5_unlike_35 (by decide) ?_
      cases hf
      exact retZ C hw dX5_unlike_36 (by decide) rfl
    · have hf := (if_neg hc).symm.trans hf
      refine lv_aload_n hx hb dX5_unlike_16 rfl (lv_at hl 0 rfl) ?_
      refine va_get (ci := 5) (v := .ref a_P_house) (C := RX5) (T := TX5) (N := 10) hx hb hts in_X5_unlike_X5 hown hK hw.1 0 rfl rfl 4 (by decide) (hts _ lk_X5_unlike_0) (fun _ h9 => h9) rfl dX5_unlike_17 ?_
      refine lv_iload_n hx hb dX5_unlike_20 rfl (lv_at hl 1 rfl) ?_
      obtain ⟨hc_5, hf⟩ := gd_some hf
      refine va_iald hx hb hK hw.1 1 0 rfl rfl (inB_in hc_5) dX5_unlike_21 ?_
      refine lv_aload_n hx hb dX5_unlike_22 rfl (lv_at hl 0 rfl) ?_
      refine va_get (ci := 5) (v := .ref a_P_house) (C := RX5) (T := TX5) (N := 10) hx hb hts in_X5_unlike_X5 hown hK hw.1 0 rfl rfl 4 (by decide) (hts _ lk_X5_unlike_0) (fun _ h9 => h9) rfl dX5_unlike_23 ?_
      refine lv_iload_n hx hb dX5_unlike_26 rfl (lv_at hl 2 rfl) ?_
      obtain ⟨hc_6, hf⟩ := gd_some hf
      refine va_iald hx hb hK hw.1 1 0 rfl rfl (inB_in hc_6) dX5_unlike_27 ?_
      refine lv_icmp_eq (tgt := 35) hx hb dX5_unlike_28 (by decide) (fun hc => ?_) (fun hc => ?_)
      · have hf := (if_pos hc).symm.trans hf
        refine lv_iconst (v := (0 : Int32)) hx hb dX5_unlike_35 (by decide) ?_
        cases hf
        exact retZ C hw dX5_unlike_36 (by decide) rfl
      · have hf := (if_neg hc).symm.trans hf
        refine lv_iconst (v := (1 : Int32)) hx hb dX5_unlike_31 (by decide) ?_
        refine lv_goto (tgt := 36) hx hb dX5_unlike_32 (by decide) ?_
        cases hf
        exact retZ C hw dX5_unlike_36 (by decide) rfl
set_option maxHeartbeats 4000000 in
set_option maxRecDepth 100000 in
theorem k_X5_unlike {l : Launch} {sx : List sx_T} {D : va_G} {cI cZ cO : ClassId} (a_P : Nat) (a_P_house : Nat) (a_P_free : Nat) (a_P_stuffed : Nat) (a_P_after : Nat) (a_P_weight : Nat) (a_P_need : Nat) (P_gloves : Int32) (P_matters : Int32) (P_pride : Int32) (P_coins : Int32) (P_house : Nat → Int32) (r0 : Int32) (p1 : Int32) (p2 : Int32) (hF : f_X5_unlike P_gloves P_house p1 p2 = some r0) : CtI l yX5_unlike wsX5_unlike rm_X5_unlike sx D (tyL cI cZ cO) [.ref a_P, .int p1, .int p2] [(oX5 a_P (.int P_gloves) (.int P_matters) (.int P_pride) (.int P_coins) (.ref a_P_house) (.ref a_P_free) (.ref a_P_stuffed) (.ref a_P_after) (.ref a_P_weight) (.ref a_P_need)), (a_P_house, .inl (cI, 6, .inl P_house))] r0 [(oX5 a_P (.int P_gloves) (.int P_matters) (.int P_pride) (.int P_coins) (.ref a_P_house) (.ref a_P_free) (.ref a_P_stuffed) (.ref a_P_after) (.ref a_P_weight) (.ref a_P_need)), (a_P_house, .inl (cI, 6, .inl P_house))] := by
  refine ctI_of (cc := cX5_unlike) (ret := (some .boolean)) (maxL := 3) (by decide) rfl (Nat.le_of_ble_eq_true rfl) ?_
  intro p e s m below meth c A ls C K hw hl
  exact q_X5_unlike_0 C K a_P a_P_house a_P_free a_P_stuffed a_P_after a_P_weight a_P_need P_gloves P_matters P_pride P_coins P_house r0 p1 p2 hF hw (lv_sub hl [0, 1, 2] rfl)
abbrev rm_X5_sameAim : Room := { frames := 0, cells := 0, slots := 0, locals := 0 }
theorem in_X5_sameAim_X5 : ∀ w ∈ u_ws RX5 TX5 10, w ∈ wsX5_sameAim := fun w h => List.mem_cons_of_mem _ (bi_wsX50 w h)
theorem lk_X5_sameAim_0 : Cond.fieldLink RX5 21 "GloveHouses$Peace" "after" "[I" ∈ wsX5_sameAim := List.mem_cons_of_mem _ (bi_wsL_law0_r4 _ (List.mem_of_getElem? (i := 12) rfl))
set_option maxHeartbeats 4000000 in
set_option maxRecDepth 100000 in
theorem q_X5_sameAim_0 {p : Program} {l : Launch} {e : Env} {s : State} {m : MethodId} {args : Array Value} {below : List Frame} {meth : Method} {c : Code} {sx : List sx_T} {D : va_G} {cI cZ cO : ClassId} {A : Nat → Prop} (C : Cx p s m args meth c RX5 wsX5_sameAim cX5_sameAim 3 (some .int)) (K : Kx sx D (tyL cI cZ cO) A s) (a_P : Nat) (a_P_house : Nat) (a_P_free : Nat) (a_P_stuffed : Nat) (a_P_after : Nat) (a_P_weight : Nat) (a_P_need : Nat) (P_gloves : Int32) (P_matters : Int32) (P_pride : Int32) (P_coins : Int32) (P_after : Nat → Int32) (r0 : Int32)    (v1 : Int32) (v2 : Int32) {H : Heap} {locs : List Loc} {ls : Array Slot} (hf : b_X5_sameAim_0 P_after  v1 v2 = some r0) (hw : Wo D A s [(oX5 a_P (.int P_gloves) (.int P_matters) (.int P_pride) (.int P_coins) (.ref a_P_house) (.ref a_P_free) (.ref a_P_stuffed) (.ref a_P_after) (.ref a_P_weight) (.ref a_P_need)), (a_P_after, .inl (cI, 6, .inl P_after))] H locs) (hl : lv_has ls 3 [(0, .ref a_P), (1, .int v1), (2, .int v2)]) : W p l e rm_X5_sameAim s m args below meth c H locs 0 0 (MQ below (QcI D A r0 [(oX5 a_P (.int P_gloves) (.int P_matters) (.int P_pride) (.int P_coins) (.ref a_P_house) (.ref a_P_free) (.ref a_P_stuffed) (.ref a_P_after) (.ref a_P_weight) (.ref a_P_need)), (a_P_after, .inl (cI, 6, .inl P_after))]) args s 0 0 A) (F0 m 0 ls []) := by
  obtain ⟨hx, hb, hml, hown, hts, hr, hlk⟩ := id C
  obtain ⟨hK, hX, hA⟩ := id K
  unfold b_X5_sameAim_0 at hf
  refine lv_aload_n hx hb dX5_sameAim_0 rfl (lv_at hl 0 rfl) ?_
  refine va_get (ci := 5) (v := .ref a_P_after) (C := RX5) (T := TX5) (N := 10) hx hb hts in_X5_sameAim_X5 hown hK hw.1 0 rfl rfl 7 (by decide) (hts _ lk_X5_sameAim_0) (fun _ h9 => h9) rfl dX5_sameAim_1 ?_
  refine lv_iload_n hx hb dX5_sameAim_4 rfl (lv_at hl 1 rfl) ?_
  obtain ⟨hc_1, hf⟩ := gd_some hf
  refine va_iald hx hb hK hw.1 1 0 rfl rfl (inB_in hc_1) dX5_sameAim_5 ?_
  refine lv_aload_n hx hb dX5_sameAim_6 rfl (lv_at hl 0 rfl) ?_
  refine va_get (ci := 5) (v := .ref a_P_after) (C := RX5) (T := TX5) (N := 10) hx hb hts in_X5_sameAim_X5 hown hK hw.1 0 rfl rfl 7 (by decide) (hts _ lk_X5_sameAim_0) (fun _ h9 => h9) rfl dX5_sameAim_7 ?_
  refine lv_iload_n hx hb dX5_sameAim_10 rfl (lv_at hl 2 rfl) ?_
  obtain ⟨hc_2, hf⟩ := gd_some hf
  refine va_iald hx hb hK hw.1 1 0 rfl rfl (inB_in hc_2) dX5_sameAim_11 ?_
  refine lv_icmp_ne (tgt := 19) hx hb dX5_sameAim_12 (by decide) (fun hc => ?_) (fun hc => ?_)
  · have hf := (if_neg hc).symm.trans hf
    refine lv_iconst (v := (0 : Int32)) hx hb dX5_sameAim_19 (by decide) ?_
    cases hf
    exact retI C hw dX5_sameAim_20 rfl
  · have hf := (if_pos hc).symm.trans hf
    refine lv_iconst (v := (1 : Int32)) hx hb dX5_sameAim_15 (by decide) ?_
    refine lv_goto (tgt := 20) hx hb dX5_sameAim_16 (by decide) ?_
    cases hf
    exact retI C hw dX5_sameAim_20 rfl
set_option maxHeartbeats 4000000 in
set_option maxRecDepth 100000 in
theorem k_X5_sameAim {l : Launch} {sx : List sx_T} {D : va_G} {cI cZ cO : ClassId} (a_P : Nat) (a_P_house : Nat) (a_P_free : Nat) (a_P_stuffed : Nat) (a_P_after : Nat) (a_P_weight : Nat) (a_P_need : Nat) (P_gloves : Int32) (P_matters : Int32) (P_pride : Int32) (P_coins : Int32) (P_after : Nat → Int32) (r0 : Int32) (p1 : Int32) (p2 : Int32) (hF : f_X5_sameAim P_after p1 p2 = some r0) : CtI l yX5_sameAim wsX5_sameAim rm_X5_sameAim sx D (tyL cI cZ cO) [.ref a_P, .int p1, .int p2] [(oX5 a_P (.int P_gloves) (.int P_matters) (.int P_pride) (.int P_coins) (.ref a_P_house) (.ref a_P_free) (.ref a_P_stuffed) (.ref a_P_after) (.ref a_P_weight) (.ref a_P_need)), (a_P_after, .inl (cI, 6, .inl P_after))] r0 [(oX5 a_P (.int P_gloves) (.int P_matters) (.int P_pride) (.int P_coins) (.ref a_P_house) (.ref a_P_free) (.ref a_P_stuffed) (.ref a_P_after) (.ref a_P_weight) (.ref a_P_need)), (a_P_after, .inl (cI, 6, .inl P_after))] := by
  refine ctI_of (cc := cX5_sameAim) (ret := (some .int)) (maxL := 3) (by decide) rfl (Nat.le_of_ble_eq_true rfl) ?_
  intro p e s m below meth c A ls C K hw hl
  exact q_X5_sameAim_0 C K a_P a_P_house a_P_free a_P_stuffed a_P_after a_P_weight a_P_need P_gloves P_matters P_pride P_coins P_after r0 p1 p2 hF hw (lv_sub hl [0, 1, 2] rfl)
abbrev rm_X5_nth : Room := { frames := 0, cells := 0, slots := 0, locals := 0 }
theorem in_X5_nth_X5 : ∀ w ∈ u_ws RX5 TX5 10, w ∈ wsX5_nth := fun w h => List.mem_cons_of_mem _ (bi_wsX50 w h)
theorem lk_X5_nth_0 : Cond.fieldLink RX5 30 "GloveHouses$Peace" "gloves" "I" ∈ wsX5_nth := List.mem_cons_of_mem _ (bi_wsL_law0_r12 _ (List.mem_of_getElem? (i := 8) rfl))
theorem lk_X5_nth_1 : Cond.fieldLink RX5 9 "GloveHouses$Peace" "house" "[I" ∈ wsX5_nth := List.mem_cons_of_mem _ (bi_wsL_law0_r4 _ (List.mem_of_getElem? (i := 9) rfl))
set_option maxHeartbeats 4000000 in
set_option maxRecDepth 100000 in
theorem q_X5_nth_36 {p : Program} {l : Launch} {e : Env} {s : State} {m : MethodId} {args : Array Value} {below : List Frame} {meth : Method} {c : Code} {sx : List sx_T} {D : va_G} {cI cZ cO : ClassId} {A : Nat → Prop} (C : Cx p s m args meth c RX5 wsX5_nth cX5_nth 5 (some .int)) (K : Kx sx D (tyL cI cZ cO) A s) (a_P : Nat) (a_P_house : Nat) (a_P_free : Nat) (a_P_stuffed : Nat) (a_P_after : Nat) (a_P_weight : Nat) (a_P_need : Nat) (P_gloves : Int32) (P_matters : Int32) (P_pride : Int32) (P_coins : Int32) (P_house : Nat → Int32) (r0 : Int32)   (k5 : Int32 → Int32 → Int32 → Int32 → Option (Int32)) (hk5 : ∀ (v1 : Int32) (v2 : Int32) (v3 : Int32) (v4 : Int32) (H : Heap) (locs : List Loc) (ls : Array Slot), k5 v1 v2 v3 v4 = some r0 → Wo D A s [(oX5 a_P (.int P_gloves) (.int P_matters) (.int P_pride) (.int P_coins) (.ref a_P_house) (.ref a_P_free) (.ref a_P_stuffed) (.ref a_P_after) (.ref a_P_weight) (.ref a_P_need)), (a_P_house, .inl (cI, 6, .inl P_house))] H locs → lv_has ls 5 [(0, .ref a_P), (1, .int v1), (2, .int v2), (3, .int v3), (4, .int v4)] → W p l e rm_X5_nth s m args below meth c H locs 0 0 (MQ below (QcI D A r0 [(oX5 a_P (.int P_gloves) (.int P_matters) (.int P_pride) (.int P_coins) (.ref a_P_house) (.ref a_P_free) (.ref a_P_stuffed) (.ref a_P_after) (.ref a_P_weight) (.ref a_P_need)), (a_P_house, .inl (cI, 6, .inl P_house))]) args s 0 0 A) (F0 m 5 ls [])) (v1 : Int32) (v2 : Int32) (v3 : Int32) (v4 : Int32) {H : Heap} {locs : List Loc} {ls : Array Slot} (hf : b_X5_nth_36 P_gloves P_house k5 v1 v2 v3 v4 = some r0) (hw : Wo D A s [(oX5 a_P (.int P_gloves) (.int P_matters) (.int P_pride) (.int P_coins) (.ref a_P_house) (.ref a_P_free) (.ref a_P_stuffed) (.ref a_P_after) (.ref a_P_weight) (.ref a_P_need)), (a_P_house, .inl (cI, 6, .inl P_house))] H locs) (hl : lv_has ls 5 [(0, .ref a_P), (1, .int v1), (2, .int v2), (3, .int v3), (4, .int v4)]) : W p l e rm_X5_nth s m args below meth c H locs 0 0 (MQ below (QcI D A r0 [(oX5 a_P (.int P_gloves) (.int P_matters) (.int P_pride) (.int P_coins) (.ref a_P_house) (.ref a_P_free) (.ref a_P_stuffed) (.ref a_P_after) (.ref a_P_weight) (.ref a_P_need)), (a_P_house, .inl (cI, 6, .inl P_house))]) args s 0 0 A) (F0 m 36 ls []) := by
  obtain ⟨hx, hb, hml, hown, hts, hr, hlk⟩ := id C
  obtain ⟨hK, hX, hA⟩ := id K
  unfold b_X5_nth_36 at hf
  obtain ⟨v4_1, e_v4_1, hf⟩ := bnd_some hf
  refine lv_iinc (v := v4_1) (lv' := [(4, .int v4_1), (0, .ref a_P), (1, .int v1), (2, .int v2), (3, .int v3)]) hx hb dX5_nth_36 hl (k := 4) rfl (by rw [e_v4_1]; rfl) (by decide) rfl (fun ls hl => ?_)
  refine lv_goto (tgt := 5) hx hb dX5_nth_39 (by decide) ?_
  exact hk5 v1 v2 v3 v4_1 _ _ _ hf hw (lv_sub hl [1, 2, 3, 4, 0] rfl)
set_option maxHeartbeats 4000000 in
set_option maxRecDepth 100000 in
theorem q_X5_nth_5 {p : Program} {l : Launch} {e : Env} {s : State} {m : MethodId} {args : Array Value} {below : List Frame} {meth : Method} {c : Code} {sx : List sx_T} {D : va_G} {cI cZ cO : ClassId} {A : Nat → Prop} (C : Cx p s m args meth c RX5 wsX5_nth cX5_nth 5 (some .int)) (K : Kx sx D (tyL cI cZ cO) A s) (a_P : Nat) (a_P_house : Nat) (a_P_free : Nat) (a_P_stuffed : Nat) (a_P_after : Nat) (a_P_weight : Nat) (a_P_need : Nat) (P_gloves : Int32) (P_matters : Int32) (P_pride : Int32) (P_coins : Int32) (P_house : Nat → Int32) (r0 : Int32)   (k5 : Int32 → Int32 → Int32 → Int32 → Option (Int32)) (hk5 : ∀ (v1 : Int32) (v2 : Int32) (v3 : Int32) (v4 : Int32) (H : Heap) (locs : List Loc) (ls : Array Slot), k5 v1 v2 v3 v4 = some r0 → Wo D A s [(oX5 a_P (.int P_gloves) (.int P_matters) (.int P_pride) (.int P_coins) (.ref a_P_house) (.ref a_P_free) (.ref a_P_stuffed) (.ref a_P_after) (.ref a_P_weight) (.ref a_P_need)), (a_P_house, .inl (cI, 6, .inl P_house))] H locs → lv_has ls 5 [(0, .ref a_P), (1, .int v1), (2, .int v2), (3, .int v3), (4, .int v4)] → W p l e rm_X5_nth s m args below meth c H locs 0 0 (MQ below (QcI D A r0 [(oX5 a_P (.int P_gloves) (.int P_matters) (.int P_pride) (.int P_coins) (.ref a_P_house) (.ref a_P_free) (.ref a_P_stuffed) (.ref a_P_after) (.ref a_P_weight) (.ref a_P_need)), (a_P_house, .inl (cI, 6, .inl P_house))]) args s 0 0 A) (F0 m 5 ls [])) (v1 : Int32) (v2 : Int32) (v3 : Int32) (v4 : Int32) {H : Heap} {locs : List Loc} {ls : Array Slot} (hf : b_X5_nth_5 P_gloves P_house k5 v1 v2 v3 v4 = some r0) (hw : Wo D A s [(oX5 a_P (.int P_gloves) (.int P_matters) (.int P_pride) (.int P_coins) (.ref a_P_house) (.ref a_P_free) (.ref a_P_stuffed) (.ref a_P_after) (.ref a_P_weight) (.ref a_P_need)), (a_P_house, .inl (cI, 6, .inl P_house))] H locs) (hl : lv_has ls 5 [(0, .ref a_P), (1, .int v1), (2, .int v2), (3, .int v3), (4, .int v4)]) : W p l e rm_X5_nth s m args below meth c H locs 0 0 (MQ below (QcI D A r0 [(oX5 a_P (.int P_gloves) (.int P_matters) (.int P_pride) (.int P_coins) (.ref a_P_house) (.ref a_P_free) (.ref a_P_stuffed) (.ref a_P_after) (.ref a_P_weight) (.ref a_P_need)), (a_P_house, .inl (cI, 6, .inl P_house))]) args s 0 0 A) (F0 m 5 ls []) := by
  obtain ⟨hx, hb, hml, hown, hts, hr, hlk⟩ := id C
  obtain ⟨hK, hX, hA⟩ := id K
  unfold b_X5_nth_5 at hf
  refine lv_iload hx hb dX5_nth_5 (lv_at hl 4 rfl) ?_
  refine lv_aload_n hx hb dX5_nth_7 rfl (lv_at hl 0 rfl) ?_
  refine va_get (ci := 5) (v := .int P_gloves) (C := RX5) (T := TX5) (N := 10) hx hb hts in_X5_nth_X5 hown hK hw.1 0 rfl rfl 0 (by decide) (hts _ lk_X5_nth_0) (fun _ h9 => h9) rfl dX5_nth_8 ?_
  refine lv_icmp_ge (tgt := 42) hx hb dX5_nth_11 (by decide) (fun hc => ?_) (fun hc => ?_)
  · have hf := (if_pos hc).symm.trans hf
    refine lv_iconst (v := (-1 : Int32)) hx hb dX5_nth_42 (by decide) ?_
    clear hk5; cases hf
    exact retI C hw dX5_nth_43 rfl
  · have hf := (if_neg hc).symm.trans hf
    refine lv_aload_n hx hb dX5_nth_14 rfl (lv_at hl 0 rfl) ?_
    refine va_get (ci := 5) (v := .ref a_P_house) (C := RX5) (T := TX5) (N := 10) hx hb hts in_X5_nth_X5 hown hK hw.1 0 rfl rfl 4 (by decide) (hts _ lk_X5_nth_1) (fun _ h9 => h9) rfl dX5_nth_15 ?_
    refine lv_iload hx hb dX5_nth_18 (lv_at hl 4 rfl) ?_
    obtain ⟨hc_1, hf⟩ := gd_some hf
    refine va_iald hx hb hK hw.1 1 0 rfl rfl (inB_in hc_1) dX5_nth_20 ?_
    refine lv_iload_n hx hb dX5_nth_21 rfl (lv_at hl 1 rfl) ?_
    refine lv_icmp_ne (tgt := 36) hx hb dX5_nth_22 (by decide) (fun hc => ?_) (fun hc => ?_)
    · have hf := (if_neg hc).symm.trans hf
      exact q_X5_nth_36 C K a_P a_P_house a_P_free a_P_stuffed a_P_after a_P_weight a_P_need P_gloves P_matters P_pride P_coins P_house r0 k5 hk5 v1 v2 v3 v4 hf hw (lv_sub hl [0, 1, 2, 3, 4] rfl)
    · have hf := (if_pos hc).symm.trans hf
      refine lv_iload_n hx hb dX5_nth_25 rfl (lv_at hl 3 rfl) ?_
      refine lv_iload_n hx hb dX5_nth_26 rfl (lv_at hl 2 rfl) ?_
      refine lv_icmp_ne (tgt := 33) hx hb dX5_nth_27 (by decide) (fun hc => ?_) (fun hc => ?_)
      · have hf := (if_neg hc).symm.trans hf
        obtain ⟨v3_2, e_v3_2, hf⟩ := bnd_some hf
        refine lv_iinc (v := v3_2) (lv' := [(3, .int v3_2), (0, .ref a_P), (1, .int v1), (2, .int v2), (4, .int v4)]) hx hb dX5_nth_33 hl (k := 3) rfl (by rw [e_v3_2]; rfl) (by decide) rfl (fun ls hl => ?_)
        exact q_X5_nth_36 C K a_P a_P_house a_P_free a_P_stuffed a_P_after a_P_weight a_P_need P_gloves P_matters P_pride P_coins P_house r0 k5 hk5 v1 v2 v3_2 v4 hf hw (lv_sub hl [1, 2, 3, 0, 4] rfl)
      · have hf := (if_pos hc).symm.trans hf
        refine lv_iload hx hb dX5_nth_30 (lv_at hl 4 rfl) ?_
        clear hk5; cases hf
        exact retI C hw dX5_nth_32 rfl
theorem qf_X5_nth_5 {p : Program} {l : Launch} {e : Env} {s : State} {m : MethodId} {args : Array Value} {below : List Frame} {meth : Method} {c : Code} {sx : List sx_T} {D : va_G} {cI cZ cO : ClassId} {A : Nat → Prop} (C : Cx p s m args meth c RX5 wsX5_nth cX5_nth 5 (some .int)) (K : Kx sx D (tyL cI cZ cO) A s) (a_P : Nat) (a_P_house : Nat) (a_P_free : Nat) (a_P_stuffed : Nat) (a_P_after : Nat) (a_P_weight : Nat) (a_P_need : Nat) (P_gloves : Int32) (P_matters : Int32) (P_pride : Int32) (P_coins : Int32) (P_house : Nat → Int32) (r0 : Int32)    (n : Nat) : ∀ (v1 : Int32) (v2 : Int32) (v3 : Int32) (v4 : Int32) (H : Heap) (locs : List Loc) (ls : Array Slot), f_X5_nth_5 P_gloves P_house  n v1 v2 v3 v4 = some r0 → Wo D A s [(oX5 a_P (.int P_gloves) (.int P_matters) (.int P_pride) (.int P_coins) (.ref a_P_house) (.ref a_P_free) (.ref a_P_stuffed) (.ref a_P_after) (.ref a_P_weight) (.ref a_P_need)), (a_P_house, .inl (cI, 6, .inl P_house))] H locs → lv_has ls 5 [(0, .ref a_P), (1, .int v1), (2, .int v2), (3, .int v3), (4, .int v4)] → W p l e rm_X5_nth s m args below meth c H locs 0 0 (MQ below (QcI D A r0 [(oX5 a_P (.int P_gloves) (.int P_matters) (.int P_pride) (.int P_coins) (.ref a_P_house) (.ref a_P_free) (.ref a_P_stuffed) (.ref a_P_after) (.ref a_P_weight) (.ref a_P_need)), (a_P_house, .inl (cI, 6, .inl P_house))]) args s 0 0 A) (F0 m 5 ls []) := by
  induction n with
  | zero =>
    intro v1 v2 v3 v4 H locs ls hf
    have h9 : (none : Option (Int32)) = some r0 := hf
    cases h9
  | succ n ih =>
    intro v1 v2 v3 v4 H locs ls hf hw hl
    exact q_X5_nth_5 C K a_P a_P_house a_P_free a_P_stuffed a_P_after a_P_weight a_P_need P_gloves P_matters P_pride P_coins P_house r0  (f_X5_nth_5 P_gloves P_house  n) ih v1 v2 v3 v4 hf hw hl
set_option maxHeartbeats 4000000 in
set_option maxRecDepth 100000 in
theorem q_X5_nth_0 {p : Program} {l : Launch} {e : Env} {s : State} {m : MethodId} {args : Array Value} {below : List Frame} {meth : Method} {c : Code} {sx : List sx_T} {D : va_G} {cI cZ cO : ClassId} {A : Nat → Prop} (C : Cx p s m args meth c RX5 wsX5_nth cX5_nth 5 (some .int)) (K : Kx sx D (tyL cI cZ cO) A s) (a_P : Nat) (a_P_house : Nat) (a_P_free : Nat) (a_P_stuffed : Nat) (a_P_after : Nat) (a_P_weight : Nat) (a_P_need : Nat) (P_gloves : Int32) (P_matters : Int32) (P_pride : Int32) (P_coins : Int32) (P_house : Nat → Int32) (r0 : Int32)    (v1 : Int32) (v2 : Int32) {H : Heap} {locs : List Loc} {ls : Array Slot} (hf : b_X5_nth_0 P_gloves P_house  v1 v2 = some r0) (hw : Wo D A s [(oX5 a_P (.int P_gloves) (.int P_matters) (.int P_pride) (.int P_coins) (.ref a_P_house) (.ref a_P_free) (.ref a_P_stuffed) (.ref a_P_after) (.ref a_P_weight) (.ref a_P_need)), (a_P_house, .inl (cI, 6, .inl P_house))] H locs) (hl : lv_has ls 5 [(0, .ref a_P), (1, .int v1), (2, .int v2)]) : W p l e rm_X5_nth s m args below meth c H locs 0 0 (MQ below (QcI D A r0 [(oX5 a_P (.int P_gloves) (.int P_matters) (.int P_pride) (.int P_coins) (.ref a_P_house) (.ref a_P_free) (.ref a_P_stuffed) (.ref a_P_after) (.ref a_P_weight) (.ref a_P_need)), (a_P_house, .inl (cI, 6, .inl P_house))]) args s 0 0 A) (F0 m 0 ls []) := by
  obtain ⟨hx, hb, hml, hown, hts, hr, hlk⟩ := id C
  obtain ⟨hK, hX, hA⟩ := id K
  unfold b_X5_nth_0 at hf
  refine lv_iconst (v := (0 : Int32)) hx hb dX5_nth_0 (by decide) ?_
  refine lv_istore_n (lv' := [(3, .int (0 : Int32)), (0, .ref a_P), (1, .int v1), (2, .int v2)]) hx hb dX5_nth_1 rfl hl (by decide) rfl (fun ls hl => ?_)
  refine lv_iconst (v := (0 : Int32)) hx hb dX5_nth_2 (by decide) ?_
  refine lv_istore (lv' := [(4, .int (0 : Int32)), (3, .int (0 : Int32)), (0, .ref a_P), (1, .int v1), (2, .int v2)]) hx hb dX5_nth_3 hl (by decide) rfl (fun ls hl => ?_)
  exact qf_X5_nth_5 C K a_P a_P_house a_P_free a_P_stuffed a_P_after a_P_weight a_P_need P_gloves P_matters P_pride P_coins P_house r0  fu v1 v2 (0 : Int32) (0 : Int32) _ _ _ hf hw (lv_sub hl [2, 3, 4, 1, 0] rfl)
set_option maxHeartbeats 4000000 in
set_option maxRecDepth 100000 in
theorem k_X5_nth {l : Launch} {sx : List sx_T} {D : va_G} {cI cZ cO : ClassId} (a_P : Nat) (a_P_house : Nat) (a_P_free : Nat) (a_P_stuffed : Nat) (a_P_after : Nat) (a_P_weight : Nat) (a_P_need : Nat) (P_gloves : Int32) (P_matters : Int32) (P_pride : Int32) (P_coins : Int32) (P_house : Nat → Int32) (r0 : Int32) (p1 : Int32) (p2 : Int32) (hF : f_X5_nth P_gloves P_house p1 p2 = some r0) : CtI l yX5_nth wsX5_nth rm_X5_nth sx D (tyL cI cZ cO) [.ref a_P, .int p1, .int p2] [(oX5 a_P (.int P_gloves) (.int P_matters) (.int P_pride) (.int P_coins) (.ref a_P_house) (.ref a_P_free) (.ref a_P_stuffed) (.ref a_P_after) (.ref a_P_weight) (.ref a_P_need)), (a_P_house, .inl (cI, 6, .inl P_house))] r0 [(oX5 a_P (.int P_gloves) (.int P_matters) (.int P_pride) (.int P_coins) (.ref a_P_house) (.ref a_P_free) (.ref a_P_stuffed) (.ref a_P_after) (.ref a_P_weight) (.ref a_P_need)), (a_P_house, .inl (cI, 6, .inl P_house))] := by
  refine ctI_of (cc := cX5_nth) (ret := (some .int)) (maxL := 5) (by decide) rfl (Nat.le_of_ble_eq_true rfl) ?_
  intro p e s m below meth c A ls C K hw hl
  exact q_X5_nth_0 C K a_P a_P_house a_P_free a_P_stuffed a_P_after a_P_weight a_P_need P_gloves P_matters P_pride P_coins P_house r0 p1 p2 hF hw (lv_sub hl [0, 1, 2] rfl)
abbrev rm_X5_heaviest : Room := { frames := 0, cells := 0, slots := 0, locals := 0 }
theorem in_X5_heaviest_X5 : ∀ w ∈ u_ws RX5 TX5 10, w ∈ wsX5_heaviest := fun w h => List.mem_cons_of_mem _ (bi_wsX50 w h)
theorem lk_X5_heaviest_0 : Cond.fieldLink RX5 34 "GloveHouses$Peace" "matters" "I" ∈ wsX5_heaviest := List.mem_cons_of_mem _ (bi_wsL_law0_r20 _ (List.mem_of_getElem? (i := 17) rfl))
theorem lk_X5_heaviest_1 : Cond.fieldLink RX5 24 "GloveHouses$Peace" "weight" "[I" ∈ wsX5_heaviest := List.mem_cons_of_mem _ (bi_wsL_law0_r4 _ (List.mem_of_getElem? (i := 13) rfl))
set_option maxHeartbeats 4000000 in
set_option maxRecDepth 100000 in
theorem q_X5_heaviest_33 {p : Program} {l : Launch} {e : Env} {s : State} {m : MethodId} {args : Array Value} {below : List Frame} {meth : Method} {c : Code} {sx : List sx_T} {D : va_G} {cI cZ cO : ClassId} {A : Nat → Prop} (C : Cx p s m args meth c RX5 wsX5_heaviest cX5_heaviest 4 (some .int)) (K : Kx sx D (tyL cI cZ cO) A s) (a_P : Nat) (a_P_house : Nat) (a_P_free : Nat) (a_P_stuffed : Nat) (a_P_after : Nat) (a_P_weight : Nat) (a_P_need : Nat) (P_gloves : Int32) (P_matters : Int32) (P_pride : Int32) (P_coins : Int32) (P_weight : Nat → Int32) (r0 : Int32)   (k6 : Int32 → Int32 → Int32 → Option (Int32)) (hk6 : ∀ (v1 : Int32) (v2 : Int32) (v3 : Int32) (H : Heap) (locs : List Loc) (ls : Array Slot), k6 v1 v2 v3 = some r0 → Wo D A s [(oX5 a_P (.int P_gloves) (.int P_matters) (.int P_pride) (.int P_coins) (.ref a_P_house) (.ref a_P_free) (.ref a_P_stuffed) (.ref a_P_after) (.ref a_P_weight) (.ref a_P_need)), (a_P_weight, .inl (cI, 5, .inl P_weight))] H locs → lv_has ls 4 [(0, .ref a_P), (1, .int v1), (2, .int v2), (3, .int v3)] → W p l e rm_X5_heaviest s m args below meth c H locs 0 0 (MQ below (QcI D A r0 [(oX5 a_P (.int P_gloves) (.int P_matters) (.int P_pride) (.int P_coins) (.ref a_P_house) (.ref a_P_free) (.ref a_P_stuffed) (.ref a_P_after) (.ref a_P_weight) (.ref a_P_need)), (a_P_weight, .inl (cI, 5, .inl P_weight))]) args s 0 0 A) (F0 m 6 ls [])) (v1 : Int32) (v2 : Int32) (v3 : Int32) {H : Heap} {locs : List Loc} {ls : Array Slot} (hf : b_X5_heaviest_33 P_matters P_weight k6 v1 v2 v3 = some r0) (hw : Wo D A s [(oX5 a_P (.int P_gloves) (.int P_matters) (.int P_pride) (.int P_coins) (.ref a_P_house) (.ref a_P_free) (.ref a_P_stuffed) (.ref a_P_after) (.ref a_P_weight) (.ref a_P_need)), (a_P_weight, .inl (cI, 5, .inl P_weight))] H locs) (hl : lv_has ls 4 [(0, .ref a_P), (1, .int v1), (2, .int v2), (3, .int v3)]) : W p l e rm_X5_heaviest s m args below meth c H locs 0 0 (MQ below (QcI D A r0 [(oX5 a_P (.int P_gloves) (.int P_matters) (.int P_pride) (.int P_coins) (.ref a_P_house) (.ref a_P_free) (.ref a_P_stuffed) (.ref a_P_after) (.ref a_P_weight) (.ref a_P_need)), (a_P_weight, .inl (cI, 5, .inl P_weight))]) args s 0 0 A) (F0 m 33 ls []) := by
  obtain ⟨hx, hb, hml, hown, hts, hr, hlk⟩ := id C
  obtain ⟨hK, hX, hA⟩ := id K
  unfold b_X5_heaviest_33 at hf
  obtain ⟨v3_1, e_v3_1, hf⟩ := bnd_some hf
  refine lv_iinc (v := v3_1) (lv' := [(3, .int v3_1), (0, .ref a_P), (1, .int v1), (2, .int v2)]) hx hb dX5_heaviest_33 hl (k := 3) rfl (by rw [e_v3_1]; rfl) (by decide) rfl (fun ls hl => ?_)
  refine lv_goto (tgt := 6) hx hb dX5_heaviest_36 (by decide) ?_
  exact hk6 v1 v2 v3_1 _ _ _ hf hw (lv_sub hl [1, 2, 3, 0] rfl)
set_option maxHeartbeats 4000000 in
set_option maxRecDepth 100000 in
theorem q_X5_heaviest_6 {p : Program} {l : Launch} {e : Env} {s : State} {m : MethodId} {args : Array Value} {below : List Frame} {meth : Method} {c : Code} {sx : List sx_T} {D : va_G} {cI cZ cO : ClassId} {A : Nat → Prop} (C : Cx p s m args meth c RX5 wsX5_heaviest cX5_heaviest 4 (some .int)) (K : Kx sx D (tyL cI cZ cO) A s) (a_P : Nat) (a_P_house : Nat) (a_P_free : Nat) (a_P_stuffed : Nat) (a_P_after : Nat) (a_P_weight : Nat) (a_P_need : Nat) (P_gloves : Int32) (P_matters : Int32) (P_pride : Int32) (P_coins : Int32) (P_weight : Nat → Int32) (r0 : Int32)   (k6 : Int32 → Int32 → Int32 → Option (Int32)) (hk6 : ∀ (v1 : Int32) (v2 : Int32) (v3 : Int32) (H : Heap) (locs : List Loc) (ls : Array Slot), k6 v1 v2 v3 = some r0 → Wo D A s [(oX5 a_P (.int P_gloves) (.int P_matters) (.int P_pride) (.int P_coins) (.ref a_P_house) (.ref a_P_free) (.ref a_P_stuffed) (.ref a_P_after) (.ref a_P_weight) (.ref a_P_need)), (a_P_weight, .inl (cI, 5, .inl P_weight))] H locs → lv_has ls 4 [(0, .ref a_P), (1, .int v1), (2, .int v2), (3, .int v3)] → W p l e rm_X5_heaviest s m args below meth c H locs 0 0 (MQ below (QcI D A r0 [(oX5 a_P (.int P_gloves) (.int P_matters) (.int P_pride) (.int P_coins) (.ref a_P_house) (.ref a_P_free) (.ref a_P_stuffed) (.ref a_P_after) (.ref a_P_weight) (.ref a_P_need)), (a_P_weight, .inl (cI, 5, .inl P_weight))]) args s 0 0 A) (F0 m 6 ls [])) (v1 : Int32) (v2 : Int32) (v3 : Int32) {H : Heap} {locs : List Loc} {ls : Array Slot} (hf : b_X5_heaviest_6 P_matters P_weight k6 v1 v2 v3 = some r0) (hw : Wo D A s [(oX5 a_P (.int P_gloves) (.int P_matters) (.int P_pride) (.int P_coins) (.ref a_P_house) (.ref a_P_free) (.ref a_P_stuffed) (.ref a_P_after) (.ref a_P_weight) (.ref a_P_need)), (a_P_weight, .inl (cI, 5, .inl P_weight))] H locs) (hl : lv_has ls 4 [(0, .ref a_P), (1, .int v1), (2, .int v2), (3, .int v3)]) : W p l e rm_X5_heaviest s m args below meth c H locs 0 0 (MQ below (QcI D A r0 [(oX5 a_P (.int P_gloves) (.int P_matters) (.int P_pride) (.int P_coins) (.ref a_P_house) (.ref a_P_free) (.ref a_P_stuffed) (.ref a_P_after) (.ref a_P_weight) (.ref a_P_need)), (a_P_weight, .inl (cI, 5, .inl P_weight))]) args s 0 0 A) (F0 m 6 ls []) := by
  obtain ⟨hx, hb, hml, hown, hts, hr, hlk⟩ := id C
  obtain ⟨hK, hX, hA⟩ := id K
  unfold b_X5_heaviest_6 at hf
  refine lv_iload_n hx hb dX5_heaviest_6 rfl (lv_at hl 3 rfl) ?_
  refine lv_aload_n hx hb dX5_heaviest_7 rfl (lv_at hl 0 rfl) ?_
  refine va_get (ci := 5) (v := .int P_matters) (C := RX5) (T := TX5) (N := 10) hx hb hts in_X5_heaviest_X5 hown hK hw.1 0 rfl rfl 1 (by decide) (hts _ lk_X5_heaviest_0) (fun _ h9 => h9) rfl dX5_heaviest_8 ?_
  refine lv_icmp_ge (tgt := 39) hx hb dX5_heaviest_11 (by decide) (fun hc => ?_) (fun hc => ?_)
  · have hf := (if_pos hc).symm.trans hf
    refine lv_iload_n hx hb dX5_heaviest_39 rfl (lv_at hl 1 rfl) ?_
    clear hk6; cases hf
    exact retI C hw dX5_heaviest_40 rfl
  · have hf := (if_neg hc).symm.trans hf
    refine lv_aload_n hx hb dX5_heaviest_14 rfl (lv_at hl 0 rfl) ?_
    refine va_get (ci := 5) (v := .ref a_P_weight) (C := RX5) (T := TX5) (N := 10) hx hb hts in_X5_heaviest_X5 hown hK hw.1 0 rfl rfl 8 (by decide) (hts _ lk_X5_heaviest_1) (fun _ h9 => h9) rfl dX5_heaviest_15 ?_
    refine lv_iload_n hx hb dX5_heaviest_18 rfl (lv_at hl 3 rfl) ?_
    obtain ⟨hc_1, hf⟩ := gd_some hf
    refine va_iald hx hb hK hw.1 1 0 rfl rfl (inB_in hc_1) dX5_heaviest_19 ?_
    refine lv_iload_n hx hb dX5_heaviest_20 rfl (lv_at hl 2 rfl) ?_
    refine lv_icmp_le (tgt := 33) hx hb dX5_heaviest_21 (by decide) (fun hc => ?_) (fun hc => ?_)
    · have hf := (if_pos hc).symm.trans hf
      exact q_X5_heaviest_33 C K a_P a_P_house a_P_free a_P_stuffed a_P_after a_P_weight a_P_need P_gloves P_matters P_pride P_coins P_weight r0 k6 hk6 v1 v2 v3 hf hw (lv_sub hl [0, 1, 2, 3] rfl)
    · have hf := (if_neg hc).symm.trans hf
      refine lv_aload_n hx hb dX5_heaviest_24 rfl (lv_at hl 0 rfl) ?_
      refine va_get (ci := 5) (v := .ref a_P_weight) (C := RX5) (T := TX5) (N := 10) hx hb hts in_X5_heaviest_X5 hown hK hw.1 0 rfl rfl 8 (by decide) (hts _ lk_X5_heaviest_1) (fun _ h9 => h9) rfl dX5_heaviest_25 ?_
      refine lv_iload_n hx hb dX5_heaviest_28 rfl (lv_at hl 3 rfl) ?_
      obtain ⟨hc_2, hf⟩ := gd_some hf
      refine va_iald hx hb hK hw.1 1 0 rfl rfl (inB_in hc_2) dX5_heaviest_29 ?_
      obtain ⟨v2_3, e_v2_3, hf⟩ := bnd_some hf
      refine lv_nmi e_v2_3 ?_
      refine lv_istore_n (lv' := [(2, .int v2_3), (0, .ref a_P), (1, .int v1), (3, .int v3)]) hx hb dX5_heaviest_30 rfl hl (by decide) rfl (fun ls hl => ?_)
      refine lv_iload_n hx hb dX5_heaviest_31 rfl (lv_at hl 3 rfl) ?_
      refine lv_istore_n (lv' := [(1, .int v3), (2, .int v2_3), (0, .ref a_P), (3, .int v3)]) hx hb dX5_heaviest_32 rfl hl (by decide) rfl (fun ls hl => ?_)
      exact q_X5_heaviest_33 C K a_P a_P_house a_P_free a_P_stuffed a_P_after a_P_weight a_P_need P_gloves P_matters P_pride P_coins P_weight r0 k6 hk6 v3 v2_3 v3 hf hw (lv_sub hl [2, 0, 1, 3] rfl)
theorem qf_X5_heaviest_6 {p : Program} {l : Launch} {e : Env} {s : State} {m : MethodId} {args : Array Value} {below : List Frame} {meth : Method} {c : Code} {sx : List sx_T} {D : va_G} {cI cZ cO : ClassId} {A : Nat → Prop} (C : Cx p s m args meth c RX5 wsX5_heaviest cX5_heaviest 4 (some .int)) (K : Kx sx D (tyL cI cZ cO) A s) (a_P : Nat) (a_P_house : Nat) (a_P_free : Nat) (a_P_stuffed : Nat) (a_P_after : Nat) (a_P_weight : Nat) (a_P_need : Nat) (P_gloves : Int32) (P_matters : Int32) (P_pride : Int32) (P_coins : Int32) (P_weight : Nat → Int32) (r0 : Int32)    (n : Nat) : ∀ (v1 : Int32) (v2 : Int32) (v3 : Int32) (H : Heap) (locs : List Loc) (ls : Array Slot), f_X5_heaviest_6 P_matters P_weight  n v1 v2 v3 = some r0 → Wo D A s [(oX5 a_P (.int P_gloves) (.int P_matters) (.int P_pride) (.int P_coins) (.ref a_P_house) (.ref a_P_free) (.ref a_P_stuffed) (.ref a_P_after) (.ref a_P_weight) (.ref a_P_need)), (a_P_weight, .inl (cI, 5, .inl P_weight))] H locs → lv_has ls 4 [(0, .ref a_P), (1, .int v1), (2, .int v2), (3, .int v3)] → W p l e rm_X5_heaviest s m args below meth c H locs 0 0 (MQ below (QcI D A r0 [(oX5 a_P (.int P_gloves) (.int P_matters) (.int P_pride) (.int P_coins) (.ref a_P_house) (.ref a_P_free) (.ref a_P_stuffed) (.ref a_P_after) (.ref a_P_weight) (.ref a_P_need)), (a_P_weight, .inl (cI, 5, .inl P_weight))]) args s 0 0 A) (F0 m 6 ls []) := by
  induction n with
  | zero =>
    intro v1 v2 v3 H locs ls hf
    have h9 : (none : Option (Int32)) = some r0 := hf
    cases h9
  | succ n ih =>
    intro v1 v2 v3 H locs ls hf hw hl
    exact q_X5_heaviest_6 C K a_P a_P_house a_P_free a_P_stuffed a_P_after a_P_weight a_P_need P_gloves P_matters P_pride P_coins P_weight r0  (f_X5_heaviest_6 P_matters P_weight  n) ih v1 v2 v3 hf hw hl
set_option maxHeartbeats 4000000 in
set_option maxRecDepth 100000 in
theorem q_X5_heaviest_0 {p : Program} {l : Launch} {e : Env} {s : State} {m : MethodId} {args : Array Value} {below : List Frame} {meth : Method} {c : Code} {sx : List sx_T} {D : va_G} {cI cZ cO : ClassId} {A : Nat → Prop} (C : Cx p s m args meth c RX5 wsX5_heaviest cX5_heaviest 4 (some .int)) (K : Kx sx D (tyL cI cZ cO) A s) (a_P : Nat) (a_P_house : Nat) (a_P_free : Nat) (a_P_stuffed : Nat) (a_P_after : Nat) (a_P_weight : Nat) (a_P_need : Nat) (P_gloves : Int32) (P_matters : Int32) (P_pride : Int32) (P_coins : Int32) (P_weight : Nat → Int32) (r0 : Int32)     {H : Heap} {locs : List Loc} {ls : Array Slot} (hf : b_X5_heaviest_0 P_matters P_weight   = some r0) (hw : Wo D A s [(oX5 a_P (.int P_gloves) (.int P_matters) (.int P_pride) (.int P_coins) (.ref a_P_house) (.ref a_P_free) (.ref a_P_stuffed) (.ref a_P_after) (.ref a_P_weight) (.ref a_P_need)), (a_P_weight, .inl (cI, 5, .inl P_weight))] H locs) (hl : lv_has ls 4 [(0, .ref a_P)]) : W p l e rm_X5_heaviest s m args below meth c H locs 0 0 (MQ below (QcI D A r0 [(oX5 a_P (.int P_gloves) (.int P_matters) (.int P_pride) (.int P_coins) (.ref a_P_house) (.ref a_P_free) (.ref a_P_stuffed) (.ref a_P_after) (.ref a_P_weight) (.ref a_P_need)), (a_P_weight, .inl (cI, 5, .inl P_weight))]) args s 0 0 A) (F0 m 0 ls []) := by
  obtain ⟨hx, hb, hml, hown, hts, hr, hlk⟩ := id C
  obtain ⟨hK, hX, hA⟩ := id K
  unfold b_X5_heaviest_0 at hf
  refine lv_iconst (v := (-1 : Int32)) hx hb dX5_heaviest_0 (by decide) ?_
  refine lv_istore_n (lv' := [(1, .int (-1 : Int32)), (0, .ref a_P)]) hx hb dX5_heaviest_1 rfl hl (by decide) rfl (fun ls hl => ?_)
  refine lv_iconst (v := (-1 : Int32)) hx hb dX5_heaviest_2 (by decide) ?_
  refine lv_istore_n (lv' := [(2, .int (-1 : Int32)), (1, .int (-1 : Int32)), (0, .ref a_P)]) hx hb dX5_heaviest_3 rfl hl (by decide) rfl (fun ls hl => ?_)
  refine lv_iconst (v := (0 : Int32)) hx hb dX5_heaviest_4 (by decide) ?_
  refine lv_istore_n (lv' := [(3, .int (0 : Int32)), (2, .int (-1 : Int32)), (1, .int (-1 : Int32)), (0, .ref a_P)]) hx hb dX5_heaviest_5 rfl hl (by decide) rfl (fun ls hl => ?_)
  exact qf_X5_heaviest_6 C K a_P a_P_house a_P_free a_P_stuffed a_P_after a_P_weight a_P_need P_gloves P_matters P_pride P_coins P_weight r0  fu (-1 : Int32) (-1 : Int32) (0 : Int32) _ _ _ hf hw (lv_sub hl [3, 2, 1, 0] rfl)
set_option maxHeartbeats 4000000 in
set_option maxRecDepth 100000 in
theorem k_X5_heaviest {l : Launch} {sx : List sx_T} {D : va_G} {cI cZ cO : ClassId} (a_P : Nat) (a_P_house : Nat) (a_P_free : Nat) (a_P_stuffed : Nat) (a_P_after : Nat) (a_P_weight : Nat) (a_P_need : Nat) (P_gloves : Int32) (P_matters : Int32) (P_pride : Int32) (P_coins : Int32) (P_weight : Nat → Int32) (r0 : Int32) (hF : f_X5_heaviest P_matters P_weight = some r0) : CtI l yX5_heaviest wsX5_heaviest rm_X5_heaviest sx D (tyL cI cZ cO) [.ref a_P] [(oX5 a_P (.int P_gloves) (.int P_matters) (.int P_pride) (.int P_coins) (.ref a_P_house) (.ref a_P_free) (.ref a_P_stuffed) (.ref a_P_after) (.ref a_P_weight) (.ref a_P_need)), (a_P_weight, .inl (cI, 5, .inl P_weight))] r0 [(oX5 a_P (.int P_gloves) (.int P_matters) (.int P_pride) (.int P_coins) (.ref a_P_house) (.ref a_P_free) (.ref a_P_stuffed) (.ref a_P_after) (.ref a_P_weight) (.ref a_P_need)), (a_P_weight, .inl (cI, 5, .inl P_weight))] := by
  refine ctI_of (cc := cX5_heaviest) (ret := (some .int)) (maxL := 4) (by decide) rfl (Nat.le_of_ble_eq_true rfl) ?_
  intro p e s m below meth c A ls C K hw hl
  exact q_X5_heaviest_0 C K a_P a_P_house a_P_free a_P_stuffed a_P_after a_P_weight a_P_need P_gloves P_matters P_pride P_coins P_weight r0  hF hw (lv_sub hl [0] rfl)
end
section
abbrev rm_X3_write : Room := { frames := 0, cells := 0, slots := 0, locals := 0 }
theorem in_X3_write_X3 : ∀ w ∈ u_ws RX3 TX3 1, w ∈ wsX3_write := fun w h => List.mem_cons_of_mem _ (bi_wsX30 w h)
theorem lk_X3_write_0 : Cond.fieldLink RX3 9 "GloveHouses$LogBook" "rows" "[I" ∈ wsX3_write := List.mem_cons_of_mem _ (bi_wsL_law0_r5 _ (List.mem_of_getElem? (i := 17) rfl))
set_option maxHeartbeats 4000000 in
set_option maxRecDepth 100000 in
theorem q_X3_write_0 {p : Program} {l : Launch} {e : Env} {s : State} {m : MethodId} {args : Array Value} {below : List Frame} {meth : Method} {c : Code} {sx : List sx_T} {D : va_G} {cI cZ cO : ClassId} {A : Nat → Prop} (C : Cx p s m args meth c RX3 wsX3_write cX3_write 6 none) (K : Kx sx D (tyL cI cZ cO) A s) (a_B : Nat) (a_B_rows : Nat) (o_B_rows : Nat → Int32)    (B_rows : Nat → Int32) (v1 : Int32) (v2 : Int32) (v3 : Int32) (v4 : Int32) {H : Heap} {locs : List Loc} {ls : Array Slot} (hf : b_X3_write_0   B_rows v1 v2 v3 v4 = some o_B_rows) (hw : Wo D A s [(oX3 a_B (.ref a_B_rows)), (a_B_rows, .inl (cI, 384, .inl B_rows))] H locs) (hl : lv_has ls 6 [(0, .ref a_B), (1, .int v1), (2, .int v2), (3, .int v3), (4, .int v4)]) : W p l e rm_X3_write s m args below meth c H locs 0 0 (MQ below (QcV D A [(oX3 a_B (.ref a_B_rows)), (a_B_rows, .inl (cI, 384, .inl o_B_rows))]) args s 0 0 A) (F0 m 0 ls []) := by
  obtain ⟨hx, hb, hml, hown, hts, hr, hlk⟩ := id C
  obtain ⟨hK, hX, hA⟩ := id K
  unfold b_X3_write_0 at hf
  refine lv_iload_n hx hb dX3_write_0 rfl (lv_at hl 1 rfl) ?_
  refine lv_bipush (v := (127 : Int32)) hx hb dX3_write_1 (by decide) ?_
  refine lv_iand hx hb dX3_write_3 ?_
  refine lv_iconst (v := (3 : Int32)) hx hb dX3_write_4 (by decide) ?_
  refine lv_imul hx hb dX3_write_5 ?_
  obtain ⟨v5_1, e_v5_1, hf⟩ := bnd_some hf
  refine lv_nmi e_v5_1 ?_
  refine lv_istore (lv' := [(5, .int v5_1), (0, .ref a_B), (1, .int v1), (2, .int v2), (3, .int v3), (4, .int v4)]) hx hb dX3_write_6 hl (by decide) rfl (fun ls hl => ?_)
  refine lv_aload_n hx hb dX3_write_8 rfl (lv_at hl 1 rfl) ?_
  refine va_get (ci := 3) (v := .ref a_B_rows) (C := RX3) (T := TX3) (N := 1) hx hb hts in_X3_write_X3 hown hK hw.1 0 rfl rfl 0 (by decide) (hts _ lk_X3_write_0) (fun _ h9 => h9) rfl dX3_write_9 ?_
  refine lv_iload hx hb dX3_write_12 (lv_at hl 0 rfl) ?_
  refine lv_iload_n hx hb dX3_write_14 rfl (lv_at hl 3 rfl) ?_
  obtain ⟨hc_2, hf⟩ := gd_some hf
  obtain ⟨B_rows_3, e_B_rows_3, hf⟩ := bnd_some hf
  refine va_iast hx hb hK hw.1 hw.2.1 hw.2.2 1 0 rfl rfl (inB_in hc_2) dX3_write_15 (fun H locs hP hD hS => ?_)
  have hw : Wo D A s [(oX3 a_B (.ref a_B_rows)), (a_B_rows, .inl (cI, 384, .inl B_rows_3))] H locs := by rw [e_B_rows_3]; exact ⟨hP, hD, hS⟩
  refine lv_aload_n hx hb dX3_write_16 rfl (lv_at hl 1 rfl) ?_
  refine va_get (ci := 3) (v := .ref a_B_rows) (C := RX3) (T := TX3) (N := 1) hx hb hts in_X3_write_X3 hown hK hw.1 0 rfl rfl 0 (by decide) (hts _ lk_X3_write_0) (fun _ h9 => h9) rfl dX3_write_17 ?_
  refine lv_iload hx hb dX3_write_20 (lv_at hl 0 rfl) ?_
  refine lv_iconst (v := (1 : Int32)) hx hb dX3_write_22 (by decide) ?_
  refine lv_iadd hx hb dX3_write_23 ?_
  refine lv_iload_n hx hb dX3_write_24 rfl (lv_at hl 4 rfl) ?_
  obtain ⟨hc_4, hf⟩ := gd_some hf
  obtain ⟨B_rows_5, e_B_rows_5, hf⟩ := bnd_some hf
  refine va_iast hx hb hK hw.1 hw.2.1 hw.2.2 1 0 rfl rfl (inB_in hc_4) dX3_write_25 (fun H locs hP hD hS => ?_)
  have hw : Wo D A s [(oX3 a_B (.ref a_B_rows)), (a_B_rows, .inl (cI, 384, .inl B_rows_5))] H locs := by rw [e_B_rows_5]; exact ⟨hP, hD, hS⟩
  refine lv_aload_n hx hb dX3_write_26 rfl (lv_at hl 1 rfl) ?_
  refine va_get (ci := 3) (v := .ref a_B_rows) (C := RX3) (T := TX3) (N := 1) hx hb hts in_X3_write_X3 hown hK hw.1 0 rfl rfl 0 (by decide) (hts _ lk_X3_write_0) (fun _ h9 => h9) rfl dX3_write_27 ?_
  refine lv_iload hx hb dX3_write_30 (lv_at hl 0 rfl) ?_
  refine lv_iconst (v := (2 : Int32)) hx hb dX3_write_32 (by decide) ?_
  refine lv_iadd hx hb dX3_write_33 ?_
  refine lv_iload hx hb dX3_write_34 (lv_at hl 5 rfl) ?_
  obtain ⟨hc_6, hf⟩ := gd_some hf
  obtain ⟨B_rows_7, e_B_rows_7, hf⟩ := bnd_some hf
  refine va_iast hx hb hK hw.1 hw.2.1 hw.2.2 1 0 rfl rfl (inB_in hc_6) dX3_write_36 (fun H locs hP hD hS => ?_)
  have hw : Wo D A s [(oX3 a_B (.ref a_B_rows)), (a_B_rows, .inl (cI, 384, .inl B_rows_7))] H locs := by rw [e_B_rows_7]; exact ⟨hP, hD, hS⟩
  cases hf
  exact retV C hw dX3_write_37
set_option maxHeartbeats 4000000 in
set_option maxRecDepth 100000 in
theorem k_X3_write {l : Launch} {sx : List sx_T} {D : va_G} {cI cZ cO : ClassId} (a_B : Nat) (a_B_rows : Nat) (o_B_rows : Nat → Int32) (B_rows : Nat → Int32) (p1 : Int32) (p2 : Int32) (p3 : Int32) (p4 : Int32) (hF : f_X3_write B_rows p1 p2 p3 p4 = some o_B_rows) : CtV l yX3_write wsX3_write rm_X3_write sx D (tyL cI cZ cO) [.ref a_B, .int p1, .int p2, .int p3, .int p4] [(oX3 a_B (.ref a_B_rows)), (a_B_rows, .inl (cI, 384, .inl B_rows))] [(oX3 a_B (.ref a_B_rows)), (a_B_rows, .inl (cI, 384, .inl o_B_rows))] := by
  refine ctV_of (cc := cX3_write) (ret := none) (maxL := 6) (by decide) rfl (Nat.le_of_ble_eq_true rfl) ?_
  intro p e s m below meth c A ls C K hw hl
  exact q_X3_write_0 C K a_B a_B_rows o_B_rows B_rows p1 p2 p3 p4 hF hw (lv_sub hl [0, 1, 2, 3, 4] rfl)
abbrev rm_X3_lengthOn : Room := { frames := 1, cells := 0, slots := 0, locals := 23 }
theorem lk_X3_lengthOn_0 : Cond.methodLink RX3 13 Lib.Math.min.name ∈ wsX3_lengthOn := List.mem_cons_of_mem _ (bi_wsL_law0_r42 _ (List.mem_of_getElem? (i := 6) rfl))
theorem lk_X3_lengthOn_1 : Cond.static Lib.Math.min.name ∈ wsX3_lengthOn := List.mem_cons_of_mem _ (bi_wsL_law0_r27 _ (List.mem_of_getElem? (i := 18) rfl))
theorem lk_X3_lengthOn_2 : Cond.initialized "java/lang/Math" ∈ wsX3_lengthOn := List.mem_cons_of_mem _ (bi_wsL_law0_r27 _ (List.mem_of_getElem? (i := 19) rfl))
theorem lk_X3_lengthOn_3 : Cond.code Lib.Math.min.name Lib.Math.min.code 2 (some .int) ∈ wsX3_lengthOn := List.mem_cons_of_mem _ (bi_wsL_law0_r27 _ (List.mem_of_getElem? (i := 20) rfl))
set_option maxHeartbeats 4000000 in
set_option maxRecDepth 100000 in
theorem q_X3_lengthOn_0 {p : Program} {l : Launch} {e : Env} {s : State} {m : MethodId} {args : Array Value} {below : List Frame} {meth : Method} {c : Code} {sx : List sx_T} {D : va_G} {cI cZ cO : ClassId} {A : Nat → Prop} (C : Cx p s m args meth c RX3 wsX3_lengthOn cX3_lengthOn 1 (some .int)) (K : Kx sx D (tyL cI cZ cO) A s) (r0 : Int32)    (v0 : Int32) {H : Heap} {locs : List Loc} {ls : Array Slot} (hf : b_X3_lengthOn_0   v0 = some r0) (hw : Wo D A s [] H locs) (hl : lv_has ls 1 [(0, .int v0)]) : W p l e rm_X3_lengthOn s m args below meth c H locs 0 0 (MQ below (QcI D A r0 []) args s 0 0 A) (F0 m 0 ls []) := by
  obtain ⟨hx, hb, hml, hown, hts, hr, hlk⟩ := id C
  obtain ⟨hK, hX, hA⟩ := id K
  unfold b_X3_lengthOn_0 at hf
  refine lv_bipush (v := (60 : Int32)) hx hb dX3_lengthOn_0 (by decide) ?_
  refine lv_iload_n hx hb dX3_lengthOn_2 rfl (lv_at hl 0 rfl) ?_
  refine va_mmin hx hb (hml.trans hl.1.symm) hown (hts _ lk_X3_lengthOn_0) (hts _ lk_X3_lengthOn_1) (hts _ lk_X3_lengthOn_2) (hts _ lk_X3_lengthOn_3) (Nat.le_of_ble_eq_true rfl) (Nat.le_of_ble_eq_true rfl) (Nat.zero_le _) (Nat.zero_le _) dX3_lengthOn_3 ?_
  obtain ⟨n_1, e_n_1, hf⟩ := bnd_some hf
  refine lv_nmi e_n_1 ?_
  cases hf
  exact retI C hw dX3_lengthOn_6 rfl
set_option maxHeartbeats 4000000 in
set_option maxRecDepth 100000 in
theorem k_X3_lengthOn {l : Launch} {sx : List sx_T} {D : va_G} {cI cZ cO : ClassId} (r0 : Int32) (p1 : Int32) (hF : f_X3_lengthOn p1 = some r0) : CtI l yX3_lengthOn wsX3_lengthOn rm_X3_lengthOn sx D (tyL cI cZ cO) [.int p1] [] r0 [] := by
  refine ctI_of (cc := cX3_lengthOn) (ret := (some .int)) (maxL := 1) (by decide) rfl (Nat.le_of_ble_eq_true rfl) ?_
  intro p e s m below meth c A ls C K hw hl
  exact q_X3_lengthOn_0 C K r0 p1 hF hw (lv_sub hl [0] rfl)
abbrev rm_X3_read : Room := { frames := 0, cells := 0, slots := 0, locals := 0 }
theorem in_X3_read_X3 : ∀ w ∈ u_ws RX3 TX3 1, w ∈ wsX3_read := fun w h => List.mem_cons_of_mem _ (bi_wsX30 w h)
theorem lk_X3_read_0 : Cond.fieldLink RX3 9 "GloveHouses$LogBook" "rows" "[I" ∈ wsX3_read := List.mem_cons_of_mem _ (bi_wsL_law0_r5 _ (List.mem_of_getElem? (i := 17) rfl))
set_option maxHeartbeats 4000000 in
set_option maxRecDepth 100000 in
theorem q_X3_read_0 {p : Program} {l : Launch} {e : Env} {s : State} {m : MethodId} {args : Array Value} {below : List Frame} {meth : Method} {c : Code} {sx : List sx_T} {D : va_G} {cI cZ cO : ClassId} {A : Nat → Prop} (C : Cx p s m args meth c RX3 wsX3_read cX3_read 3 (some .int)) (K : Kx sx D (tyL cI cZ cO) A s) (a_B : Nat) (a_B_rows : Nat) (B_rows : Nat → Int32) (r0 : Int32)    (v1 : Int32) (v2 : Int32) {H : Heap} {locs : List Loc} {ls : Array Slot} (hf : b_X3_read_0 B_rows  v1 v2 = some r0) (hw : Wo D A s [(oX3 a_B (.ref a_B_rows)), (a_B_rows, .inl (cI, 384, .inl B_rows))] H locs) (hl : lv_has ls 3 [(0, .ref a_B), (1, .int v1), (2, .int v2)]) : W p l e rm_X3_read s m args below meth c H locs 0 0 (MQ below (QcI D A r0 [(oX3 a_B (.ref a_B_rows)), (a_B_rows, .inl (cI, 384, .inl B_rows))]) args s 0 0 A) (F0 m 0 ls []) := by
  obtain ⟨hx, hb, hml, hown, hts, hr, hlk⟩ := id C
  obtain ⟨hK, hX, hA⟩ := id K
  unfold b_X3_read_0 at hf
  refine lv_aload_n hx hb dX3_read_0 rfl (lv_at hl 0 rfl) ?_
  refine va_get (ci := 3) (v := .ref a_B_rows) (C := RX3) (T := TX3) (N := 1) hx hb hts in_X3_read_X3 hown hK hw.1 0 rfl rfl 0 (by decide) (hts _ lk_X3_read_0) (fun _ h9 => h9) rfl dX3_read_1 ?_
  refine lv_iload_n hx hb dX3_read_4 rfl (lv_at hl 1 rfl) ?_
  refine lv_bipush (v := (127 : Int32)) hx hb dX3_read_5 (by decide) ?_
  refine lv_iand hx hb dX3_read_7 ?_
  refine lv_iconst (v := (3 : Int32)) hx hb dX3_read_8 (by decide) ?_
  refine lv_imul hx hb dX3_read_9 ?_
  refine lv_iload_n hx hb dX3_read_10 rfl (lv_at hl 2 rfl) ?_
  refine lv_iadd hx hb dX3_read_11 ?_
  obtain ⟨i_1, e_i_1, hf⟩ := bnd_some hf
  refine lv_nmi e_i_1 ?_
  obtain ⟨hc_2, hf⟩ := gd_some hf
  refine va_iald hx hb hK hw.1 1 0 rfl rfl (inB_in hc_2) dX3_read_12 ?_
  cases hf
  exact retI C hw dX3_read_13 rfl
set_option maxHeartbeats 4000000 in
set_option maxRecDepth 100000 in
theorem k_X3_read {l : Launch} {sx : List sx_T} {D : va_G} {cI cZ cO : ClassId} (a_B : Nat) (a_B_rows : Nat) (B_rows : Nat → Int32) (r0 : Int32) (p1 : Int32) (p2 : Int32) (hF : f_X3_read B_rows p1 p2 = some r0) : CtI l yX3_read wsX3_read rm_X3_read sx D (tyL cI cZ cO) [.ref a_B, .int p1, .int p2] [(oX3 a_B (.ref a_B_rows)), (a_B_rows, .inl (cI, 384, .inl B_rows))] r0 [(oX3 a_B (.ref a_B_rows)), (a_B_rows, .inl (cI, 384, .inl B_rows))] := by
  refine ctI_of (cc := cX3_read) (ret := (some .int)) (maxL := 3) (by decide) rfl (Nat.le_of_ble_eq_true rfl) ?_
  intro p e s m below meth c A ls C K hw hl
  exact q_X3_read_0 C K a_B a_B_rows B_rows r0 p1 p2 hF hw (lv_sub hl [0, 1, 2] rfl)
abbrev rm_X3_copyFrom : Room := { frames := 1, cells := 0, slots := 0, locals := 26 }
theorem in_X3_copyFrom_X3 : ∀ w ∈ u_ws RX3 TX3 1, w ∈ wsX3_copyFrom := fun w h => List.mem_cons_of_mem _ (bi_wsX30 w h)
theorem lk_X3_copyFrom_0 : Cond.fieldLink RX3 9 "GloveHouses$LogBook" "rows" "[I" ∈ wsX3_copyFrom := List.mem_cons_of_mem _ (bi_wsL_law0_r5 _ (List.mem_of_getElem? (i := 17) rfl))
theorem lk_X3_copyFrom_1 : Cond.methodLink RX3 19 arraycopyName ∈ wsX3_copyFrom := List.mem_cons_of_mem _ (bi_wsL_law0_r59 _ (List.mem_of_getElem? (i := 0) rfl))
theorem lk_X3_copyFrom_2 : Cond.native arraycopyName ∈ wsX3_copyFrom := List.mem_cons_of_mem _ (bi_wsL_law0_r10 _ (List.mem_of_getElem? (i := 21) rfl))
theorem lk_X3_copyFrom_3 : Cond.static arraycopyName ∈ wsX3_copyFrom := List.mem_cons_of_mem _ (bi_wsL_law0_r10 _ (List.mem_of_getElem? (i := 22) rfl))
theorem lk_X3_copyFrom_4 : Cond.initialized "java/lang/System" ∈ wsX3_copyFrom := List.mem_cons_of_mem _ (bi_wsL_law0_r10 _ (List.mem_of_getElem? (i := 23) rfl))
set_option maxHeartbeats 4000000 in
set_option maxRecDepth 100000 in
theorem q_X3_copyFrom_0 {p : Program} {l : Launch} {e : Env} {s : State} {m : MethodId} {args : Array Value} {below : List Frame} {meth : Method} {c : Code} {sx : List sx_T} {D : va_G} {cI cZ cO : ClassId} {A : Nat → Prop} (C : Cx p s m args meth c RX3 wsX3_copyFrom cX3_copyFrom 2 none) (K : Kx sx D (tyL cI cZ cO) A s) (a_B : Nat) (a_B_rows : Nat) (a_BO : Nat) (a_BO_rows : Nat) (BO_rows : Nat → Int32) (o_B_rows : Nat → Int32)    (B_rows : Nat → Int32) {H : Heap} {locs : List Loc} {ls : Array Slot} (hf : b_X3_copyFrom_0 BO_rows  B_rows = some o_B_rows) (hw : Wo D A s [(oX3 a_B (.ref a_B_rows)), (a_B_rows, .inl (cI, 384, .inl B_rows)), (oX3 a_BO (.ref a_BO_rows)), (a_BO_rows, .inl (cI, 384, .inl BO_rows))] H locs) (hl : lv_has ls 2 [(0, .ref a_B), (1, .ref a_BO)]) : W p l e rm_X3_copyFrom s m args below meth c H locs 0 0 (MQ below (QcV D A [(oX3 a_B (.ref a_B_rows)), (a_B_rows, .inl (cI, 384, .inl o_B_rows)), (oX3 a_BO (.ref a_BO_rows)), (a_BO_rows, .inl (cI, 384, .inl BO_rows))]) args s 0 0 A) (F0 m 0 ls []) := by
  obtain ⟨hx, hb, hml, hown, hts, hr, hlk⟩ := id C
  obtain ⟨hK, hX, hA⟩ := id K
  unfold b_X3_copyFrom_0 at hf
  refine lv_aload_n hx hb dX3_copyFrom_0 rfl (lv_at hl 1 rfl) ?_
  refine va_get (ci := 3) (v := .ref a_BO_rows) (C := RX3) (T := TX3) (N := 1) hx hb hts in_X3_copyFrom_X3 hown hK hw.1 2 rfl rfl 0 (by decide) (hts _ lk_X3_copyFrom_0) (fun _ h9 => h9) rfl dX3_copyFrom_1 ?_
  refine lv_iconst (v := (0 : Int32)) hx hb dX3_copyFrom_4 (by decide) ?_
  refine lv_aload_n hx hb dX3_copyFrom_5 rfl (lv_at hl 0 rfl) ?_
  refine va_get (ci := 3) (v := .ref a_B_rows) (C := RX3) (T := TX3) (N := 1) hx hb hts in_X3_copyFrom_X3 hown hK hw.1 0 rfl rfl 0 (by decide) (hts _ lk_X3_copyFrom_0) (fun _ h9 => h9) rfl dX3_copyFrom_6 ?_
  refine lv_iconst (v := (0 : Int32)) hx hb dX3_copyFrom_9 (by decide) ?_
  refine lv_sipush (v := (384 : Int32)) hx hb dX3_copyFrom_10 (by decide) ?_
  obtain ⟨hc_1, hf⟩ := gd_some hf
  obtain ⟨hc_2, hf⟩ := gd_some hf
  obtain ⟨B_rows_3, e_B_rows_3, hf⟩ := bnd_some hf
  refine va_copyi hx hb (hml.trans hl.1.symm) hown (hts _ lk_X3_copyFrom_1) (hts _ lk_X3_copyFrom_2) (hts _ lk_X3_copyFrom_3) (hts _ lk_X3_copyFrom_4) hK hw.1 hw.2.1 hw.2.2 3 1 0 0 rfl rfl rfl rfl rfl (spB_sp hc_1).1 (spB_sp hc_2).1 (spB_sp hc_1).2.1 (spB_sp hc_1).2.2 (spB_sp hc_2).2.2 (fun _ _ => rfl) (Nat.le_of_ble_eq_true rfl) (Nat.le_of_ble_eq_true rfl) dX3_copyFrom_13 (fun H locs hP hD hS => ?_)
  have hw : Wo D A s [(oX3 a_B (.ref a_B_rows)), (a_B_rows, .inl (cI, 384, .inl B_rows_3)), (oX3 a_BO (.ref a_BO_rows)), (a_BO_rows, .inl (cI, 384, .inl BO_rows))] H locs := by rw [e_B_rows_3]; exact ⟨hP, hD, hS⟩
  cases hf
  exact retV C hw dX3_copyFrom_16
set_option maxHeartbeats 4000000 in
set_option maxRecDepth 100000 in
theorem k_X3_copyFrom {l : Launch} {sx : List sx_T} {D : va_G} {cI cZ cO : ClassId} (a_B : Nat) (a_B_rows : Nat) (a_BO : Nat) (a_BO_rows : Nat) (BO_rows : Nat → Int32) (o_B_rows : Nat → Int32) (B_rows : Nat → Int32) (hF : f_X3_copyFrom BO_rows B_rows = some o_B_rows) : CtV l yX3_copyFrom wsX3_copyFrom rm_X3_copyFrom sx D (tyL cI cZ cO) [.ref a_B, .ref a_BO] [(oX3 a_B (.ref a_B_rows)), (a_B_rows, .inl (cI, 384, .inl B_rows)), (oX3 a_BO (.ref a_BO_rows)), (a_BO_rows, .inl (cI, 384, .inl BO_rows))] [(oX3 a_B (.ref a_B_rows)), (a_B_rows, .inl (cI, 384, .inl o_B_rows)), (oX3 a_BO (.ref a_BO_rows)), (a_BO_rows, .inl (cI, 384, .inl BO_rows))] := by
  refine ctV_of (cc := cX3_copyFrom) (ret := none) (maxL := 2) (by decide) rfl (Nat.le_of_ble_eq_true rfl) ?_
  intro p e s m below meth c A ls C K hw hl
  exact q_X3_copyFrom_0 C K a_B a_B_rows a_BO a_BO_rows BO_rows o_B_rows B_rows hF hw (lv_sub hl [0, 1] rfl)
end
section
abbrev rm_X2_letter : Room := { frames := 0, cells := 0, slots := 0, locals := 0 }
theorem lk_X2_letter_0 : Cond.fieldLink RX2 24 "GloveHouses$Laws" "LETTERS" "[C" ∈ wsX2_letter := List.mem_cons_of_mem _ (bi_wsL_law0_r5 _ (List.mem_of_getElem? (i := 4) rfl))
set_option maxHeartbeats 4000000 in
set_option maxRecDepth 100000 in
theorem q_X2_letter_2 {p : Program} {l : Launch} {e : Env} {s : State} {m : MethodId} {args : Array Value} {below : List Frame} {meth : Method} {c : Code} {sx : List sx_T} {D : va_G} {cI cZ cO : ClassId} {A : Nat → Prop} (C : Cx p s m args meth c RX2 wsX2_letter cX2_letter 2 (some .int)) (K : Kx sx D (tyL cI cZ cO) A s) (b_llT : Nat) (llT : Nat → Int32) (r0 : Int32) (hs_llT : (("GloveHouses$Laws", "LETTERS", "[C", b_llT, .char, 6, llT) : sx_T) ∈ sx)  (k2 : Int32 → Int32 → Option (Int32)) (hk2 : ∀ (v0 : Int32) (v1 : Int32) (H : Heap) (locs : List Loc) (ls : Array Slot), k2 v0 v1 = some r0 → Wo D A s [] H locs → lv_has ls 2 [(0, .int v0), (1, .int v1)] → W p l e rm_X2_letter s m args below meth c H locs 0 0 (MQ below (QcI D A r0 []) args s 0 0 A) (F0 m 2 ls [])) (v0 : Int32) (v1 : Int32) {H : Heap} {locs : List Loc} {ls : Array Slot} (hf : b_X2_letter_2 llT k2 v0 v1 = some r0) (hw : Wo D A s [] H locs) (hl : lv_has ls 2 [(0, .int v0), (1, .int v1)]) : W p l e rm_X2_letter s m args below meth c H locs 0 0 (MQ below (QcI D A r0 []) args s 0 0 A) (F0 m 2 ls []) := by
  obtain ⟨hx, hb, hml, hown, hts, hr, hlk⟩ := id C
  obtain ⟨hK, hX, hA⟩ := id K
  unfold b_X2_letter_2 at hf
  refine lv_iload_n hx hb dX2_letter_2 rfl (lv_at hl 1 rfl) ?_
  refine va_gets (v := .ref b_llT) hx hb (hX _ hs_llT).1 hw.2.2 hown (hts _ lk_X2_letter_0) (fun _ h9 => h9) dX2_letter_3 ?_
  refine sx_len (v := (6 : Int32)) hx hb (hX _ hs_llT).2.1 (hX _ hs_llT).2.2 hw.2.2 rfl dX2_letter_6 ?_
  refine lv_icmp_ge (tgt := 27) hx hb dX2_letter_7 (by decide) (fun hc => ?_) (fun hc => ?_)
  · have hf := (if_pos hc).symm.trans hf
    refine lv_iconst (v := (-1 : Int32)) hx hb dX2_letter_27 (by decide) ?_
    clear hk2; cases hf
    exact retI C hw dX2_letter_28 rfl
  · have hf := (if_neg hc).symm.trans hf
    refine va_gets (v := .ref b_llT) hx hb (hX _ hs_llT).1 hw.2.2 hown (hts _ lk_X2_letter_0) (fun _ h9 => h9) dX2_letter_10 ?_
    refine lv_iload_n hx hb dX2_letter_13 rfl (lv_at hl 1 rfl) ?_
    obtain ⟨hc_1, hf⟩ := gd_some hf
    refine sx_cld hx hb (hX _ hs_llT).2.1 (hX _ hs_llT).2.2 hw.2.2 (inB_in hc_1) dX2_letter_14 ?_
    refine lv_iload_n hx hb dX2_letter_15 rfl (lv_at hl 0 rfl) ?_
    refine lv_icmp_ne (tgt := 21) hx hb dX2_letter_16 (by decide) (fun hc => ?_) (fun hc => ?_)
    · have hf := (if_neg hc).symm.trans hf
      obtain ⟨v1_2, e_v1_2, hf⟩ := bnd_some hf
      refine lv_iinc (v := v1_2) (lv' := [(1, .int v1_2), (0, .int v0)]) hx hb dX2_letter_21 hl (k := 1) rfl (by rw [e_v1_2]; rfl) (by decide) rfl (fun ls hl => ?_)
      refine lv_goto (tgt := 2) hx hb dX2_letter_24 (by decide) ?_
      exact hk2 v0 v1_2 _ _ _ hf hw (lv_sub hl [1, 0] rfl)
    · have hf := (if_pos hc).symm.trans hf
      refine lv_iload_n hx hb dX2_letter_19 rfl (lv_at hl 1 rfl) ?_
      clear hk2; cases hf
      exact retI C hw dX2_letter_20 rfl
theorem qf_X2_letter_2 {p : Program} {l : Launch} {e : Env} {s : State} {m : MethodId} {args : Array Value} {below : List Frame} {meth : Method} {c : Code} {sx : List sx_T} {D : va_G} {cI cZ cO : ClassId} {A : Nat → Prop} (C : Cx p s m args meth c RX2 wsX2_letter cX2_letter 2 (some .int)) (K : Kx sx D (tyL cI cZ cO) A s) (b_llT : Nat) (llT : Nat → Int32) (r0 : Int32) (hs_llT : (("GloveHouses$Laws", "LETTERS", "[C", b_llT, .char, 6, llT) : sx_T) ∈ sx)   (n : Nat) : ∀ (v0 : Int32) (v1 : Int32) (H : Heap) (locs : List Loc) (ls : Array Slot), f_X2_letter_2 llT  n v0 v1 = some r0 → Wo D A s [] H locs → lv_has ls 2 [(0, .int v0), (1, .int v1)] → W p l e rm_X2_letter s m args below meth c H locs 0 0 (MQ below (QcI D A r0 []) args s 0 0 A) (F0 m 2 ls []) := by
  induction n with
  | zero =>
    intro v0 v1 H locs ls hf
    have h9 : (none : Option (Int32)) = some r0 := hf
    cases h9
  | succ n ih =>
    intro v0 v1 H locs ls hf hw hl
    exact q_X2_letter_2 C K b_llT llT r0 hs_llT  (f_X2_letter_2 llT  n) ih v0 v1 hf hw hl
set_option maxHeartbeats 4000000 in
set_option maxRecDepth 100000 in
theorem q_X2_letter_0 {p : Program} {l : Launch} {e : Env} {s : State} {m : MethodId} {args : Array Value} {below : List Frame} {meth : Method} {c : Code} {sx : List sx_T} {D : va_G} {cI cZ cO : ClassId} {A : Nat → Prop} (C : Cx p s m args meth c RX2 wsX2_letter cX2_letter 2 (some .int)) (K : Kx sx D (tyL cI cZ cO) A s) (b_llT : Nat) (llT : Nat → Int32) (r0 : Int32) (hs_llT : (("GloveHouses$Laws", "LETTERS", "[C", b_llT, .char, 6, llT) : sx_T) ∈ sx)   (v0 : Int32) {H : Heap} {locs : List Loc} {ls : Array Slot} (hf : b_X2_letter_0 llT  v0 = some r0) (hw : Wo D A s [] H locs) (hl : lv_has ls 2 [(0, .int v0)]) : W p l e rm_X2_letter s m args below meth c H locs 0 0 (MQ below (QcI D A r0 []) args s 0 0 A) (F0 m 0 ls []) := by
  obtain ⟨hx, hb, hml, hown, hts, hr, hlk⟩ := id C
  obtain ⟨hK, hX, hA⟩ := id K
  unfold b_X2_letter_0 at hf
  refine lv_iconst (v := (0 : Int32)) hx hb dX2_letter_0 (by decide) ?_
  refine lv_istore_n (lv' := [(1, .int (0 : Int32)), (0, .int v0)]) hx hb dX2_letter_1 rfl hl (by decide) rfl (fun ls hl => ?_)
  exact qf_X2_letter_2 C K b_llT llT r0 hs_llT  fu v0 (0 : Int32) _ _ _ hf hw (lv_sub hl [1, 0] rfl)
set_option maxHeartbeats 4000000 in
set_option maxRecDepth 100000 in
theorem k_X2_letter {l : Launch} {sx : List sx_T} {D : va_G} {cI cZ cO : ClassId} (b_llT : Nat) (llT : Nat → Int32) (r0 : Int32) (p1 : Int32) (hs_llT : (("GloveHouses$Laws", "LETTERS", "[C", b_llT, .char, 6, llT) : sx_T) ∈ sx) (hF : f_X2_letter llT p1 = some r0) : CtI l yX2_letter wsX2_letter rm_X2_letter sx D (tyL cI cZ cO) [.int p1] [] r0 [] := by
  refine ctI_of (cc := cX2_letter) (ret := (some .int)) (maxL := 2) (by decide) rfl (Nat.le_of_ble_eq_true rfl) ?_
  intro p e s m below meth c A ls C K hw hl
  exact q_X2_letter_0 C K b_llT llT r0 hs_llT p1 hF hw (lv_sub hl [0] rfl)
abbrev rm_X2_isFull : Room := { frames := 0, cells := 0, slots := 0, locals := 0 }
theorem in_X2_isFull_X2 : ∀ w ∈ u_ws RX2 TX2 6, w ∈ wsX2_isFull := fun w h => List.mem_cons_of_mem _ (bi_wsX20 w h)
theorem lk_X2_isFull_0 : Cond.fieldLink RX2 34 "GloveHouses$Laws" "size" "I" ∈ wsX2_isFull := List.mem_cons_of_mem _ (bi_wsL_law0_r21 _ (List.mem_of_getElem? (i := 14) rfl))
set_option maxHeartbeats 4000000 in
set_option maxRecDepth 100000 in
theorem q_X2_isFull_0 {p : Program} {l : Launch} {e : Env} {s : State} {m : MethodId} {args : Array Value} {below : List Frame} {meth : Method} {c : Code} {sx : List sx_T} {D : va_G} {cI cZ cO : ClassId} {A : Nat → Prop} (C : Cx p s m args meth c RX2 wsX2_isFull cX2_isFull 1 (some .boolean)) (K : Kx sx D (tyL cI cZ cO) A s) (a_laws : Nat) (a_laws_codes : Nat) (a_laws_lengths : Nat) (a_laws_letters : Nat) (a_laws_stack : Nat) (laws_size : Int32) (laws_holds : Int32) (r0 : Int32)     {H : Heap} {locs : List Loc} {ls : Array Slot} (hf : b_X2_isFull_0 laws_size   = some r0) (hw : Wo D A s [(oX2 a_laws (.int laws_size) (.int laws_holds) (.ref a_laws_codes) (.ref a_laws_lengths) (.ref a_laws_letters) (.ref a_laws_stack))] H locs) (hl : lv_has ls 1 [(0, .ref a_laws)]) : W p l e rm_X2_isFull s m args below meth c H locs 0 0 (MQ below (QcI D A r0 [(oX2 a_laws (.int laws_size) (.int laws_holds) (.ref a_laws_codes) (.ref a_laws_lengths) (.ref a_laws_letters) (.ref a_laws_stack))]) args s 0 0 A) (F0 m 0 ls []) := by
  obtain ⟨hx, hb, hml, hown, hts, hr, hlk⟩ := id C
  obtain ⟨hK, hX, hA⟩ := id K
  unfold b_X2_isFull_0 at hf
  refine lv_aload_n hx hb dX2_isFull_0 rfl (lv_at hl 0 rfl) ?_
  refine va_get (ci := 2) (v := .int laws_size) (C := RX2) (T := TX2) (N := 6) hx hb hts in_X2_isFull_X2 hown hK hw.1 0 rfl rfl 0 (by decide) (hts _ lk_X2_isFull_0) (fun _ h9 => h9) rfl dX2_isFull_1 ?_
  refine lv_iconst (v := (4 : Int32)) hx hb dX2_isFull_4 (by decide) ?_
  refine lv_icmp_lt (tgt := 12) hx hb dX2_isFull_5 (by decide) (fun hc => ?_) (fun hc => ?_)
  · have hf := (if_pos hc).symm.trans hf
    refine lv_iconst (v := (0 : Int32)) hx hb dX2_isFull_12 (by decide) ?_
    cases hf
    exact retZ C hw dX2_isFull_13 (by decide) rfl
  · have hf := (if_neg hc).symm.trans hf
    refine lv_iconst (v := (1 : Int32)) hx hb dX2_isFull_8 (by decide) ?_
    refine lv_goto (tgt := 13) hx hb dX2_isFull_9 (by decide) ?_
    cases hf
    exact retZ C hw dX2_isFull_13 (by decide) rfl
set_option maxHeartbeats 4000000 in
set_option maxRecDepth 100000 in
theorem k_X2_isFull {l : Launch} {sx : List sx_T} {D : va_G} {cI cZ cO : ClassId} (a_laws : Nat) (a_laws_codes : Nat) (a_laws_lengths : Nat) (a_laws_letters : Nat) (a_laws_stack : Nat) (laws_size : Int32) (laws_holds : Int32) (r0 : Int32) (hF : f_X2_isFull laws_size = some r0) : CtI l yX2_isFull wsX2_isFull rm_X2_isFull sx D (tyL cI cZ cO) [.ref a_laws] [(oX2 a_laws (.int laws_size) (.int laws_holds) (.ref a_laws_codes) (.ref a_laws_lengths) (.ref a_laws_letters) (.ref a_laws_stack))] r0 [(oX2 a_laws (.int laws_size) (.int laws_holds) (.ref a_laws_codes) (.ref a_laws_lengths) (.ref a_laws_letters) (.ref a_laws_stack))] := by
  refine ctI_of (cc := cX2_isFull) (ret := (some .boolean)) (maxL := 1) (by decide) rfl (Nat.le_of_ble_eq_true rfl) ?_
  intro p e s m below meth c A ls C K hw hl
  exact q_X2_isFull_0 C K a_laws a_laws_codes a_laws_lengths a_laws_letters a_laws_stack laws_size laws_holds r0  hF hw (lv_sub hl [0] rfl)
abbrev rm_X2_add : Room := { frames := 1, cells := 0, slots := 0, locals := 26 }
theorem in_X2_add_X2 : ∀ w ∈ u_ws RX2 TX2 6, w ∈ wsX2_add := fun w h => List.mem_cons_of_mem _ (bi_wsX20 w h)
theorem lk_X2_add_0 : Cond.fieldLink RX2 17 "GloveHouses$Laws" "codes" "[[I" ∈ wsX2_add := List.mem_cons_of_mem _ (bi_wsL_law0_r5 _ (List.mem_of_getElem? (i := 2) rfl))
theorem lk_X2_add_1 : Cond.fieldLink RX2 34 "GloveHouses$Laws" "size" "I" ∈ wsX2_add := List.mem_cons_of_mem _ (bi_wsL_law0_r21 _ (List.mem_of_getElem? (i := 14) rfl))
theorem lk_X2_add_2 : Cond.methodLink RX2 41 arraycopyName ∈ wsX2_add := List.mem_cons_of_mem _ (bi_wsL_law0_r22 _ (List.mem_of_getElem? (i := 2) rfl))
theorem lk_X2_add_3 : Cond.native arraycopyName ∈ wsX2_add := List.mem_cons_of_mem _ (bi_wsL_law0_r10 _ (List.mem_of_getElem? (i := 21) rfl))
theorem lk_X2_add_4 : Cond.static arraycopyName ∈ wsX2_add := List.mem_cons_of_mem _ (bi_wsL_law0_r10 _ (List.mem_of_getElem? (i := 22) rfl))
theorem lk_X2_add_5 : Cond.initialized "java/lang/System" ∈ wsX2_add := List.mem_cons_of_mem _ (bi_wsL_law0_r10 _ (List.mem_of_getElem? (i := 23) rfl))
theorem lk_X2_add_6 : Cond.fieldLink RX2 20 "GloveHouses$Laws" "lengths" "[I" ∈ wsX2_add := List.mem_cons_of_mem _ (bi_wsL_law0_r5 _ (List.mem_of_getElem? (i := 3) rfl))
set_option maxHeartbeats 4000000 in
set_option maxRecDepth 100000 in
theorem q_X2_add_0 {p : Program} {l : Launch} {e : Env} {s : State} {m : MethodId} {args : Array Value} {below : List Frame} {meth : Method} {c : Code} {sx : List sx_T} {D : va_G} {cI cZ cO : ClassId} {A : Nat → Prop} (C : Cx p s m args meth c RX2 wsX2_add cX2_add 3 none) (K : Kx sx D (tyL cI cZ cO) A s) (a_laws : Nat) (a_laws_codes : Nat) (a_laws_lengths : Nat) (a_laws_letters : Nat) (a_laws_stack : Nat) (a_ar : Nat) (rw : Nat → Nat) (ar_n : Nat) (laws_holds : Int32) (ar : Nat → Int32) (o_laws_size : Int32) (o_laws_lengths : Nat → Int32) (o_laws_c0 : Nat → Int32) (o_laws_c1 : Nat → Int32) (o_laws_c2 : Nat → Int32) (o_laws_c3 : Nat → Int32)    (laws_size : Int32) (laws_lengths : Nat → Int32) (laws_c0 : Nat → Int32) (laws_c1 : Nat → Int32) (laws_c2 : Nat → Int32) (laws_c3 : Nat → Int32) (v2 : Int32) {H : Heap} {locs : List Loc} {ls : Array Slot} (hf : b_X2_add_0 ar ar_n  laws_size laws_lengths laws_c0 laws_c1 laws_c2 laws_c3 v2 = some (o_laws_size, o_laws_lengths, o_laws_c0, o_laws_c1, o_laws_c2, o_laws_c3)) (hw : Wo D A s [(oX2 a_laws (.int laws_size) (.int laws_holds) (.ref a_laws_codes) (.ref a_laws_lengths) (.ref a_laws_letters) (.ref a_laws_stack)), (a_laws_codes, .inl (cO, 4, .inr (.inr (.inr (.inr (rwF rw)))))), (a_laws_lengths, .inl (cI, 4, .inl laws_lengths)), ((rw 0), .inl (cI, 241, .inl laws_c0)), ((rw 1), .inl (cI, 241, .inl laws_c1)), ((rw 2), .inl (cI, 241, .inl laws_c2)), ((rw 3), .inl (cI, 241, .inl laws_c3)), (a_ar, .inl (cI, ar_n, .inl ar))] H locs) (hl : lv_has ls 3 [(0, .ref a_laws), (1, .ref a_ar), (2, .int v2)]) : W p l e rm_X2_add s m args below meth c H locs 0 0 (MQ below (QcV D A [(oX2 a_laws (.int o_laws_size) (.int laws_holds) (.ref a_laws_codes) (.ref a_laws_lengths) (.ref a_laws_letters) (.ref a_laws_stack)), (a_laws_codes, .inl (cO, 4, .inr (.inr (.inr (.inr (rwF rw)))))), (a_laws_lengths, .inl (cI, 4, .inl o_laws_lengths)), ((rw 0), .inl (cI, 241, .inl o_laws_c0)), ((rw 1), .inl (cI, 241, .inl o_laws_c1)), ((rw 2), .inl (cI, 241, .inl o_laws_c2)), ((rw 3), .inl (cI, 241, .inl o_laws_c3)), (a_ar, .inl (cI, ar_n, .inl ar))]) args s 0 0 A) (F0 m 0 ls []) := by
  obtain ⟨hx, hb, hml, hown, hts, hr, hlk⟩ := id C
  obtain ⟨hK, hX, hA⟩ := id K
  unfold b_X2_add_0 at hf
  refine lv_aload_n hx hb dX2_add_0 rfl (lv_at hl 0 rfl) ?_
  obtain ⟨r_1, hg_2, hf⟩ := ob1_some hf
  refine cl_ViA (As := []) (rest := []) C K hw (k_X2_isFull a_laws a_laws_codes a_laws_lengths a_laws_letters a_laws_stack laws_size laws_holds r_1 hg_2) [0] rfl (by decide) rfl rfl (ci := 2) (j := 0) rfl rfl (cwV 0 hts gX2_add_X2_isFull rfl rfl rfl (by decide +kernel) ⟨Nat.le_of_ble_eq_true rfl, Nat.le_of_ble_eq_true rfl⟩) rfl hl rfl (Nat.le_of_ble_eq_true rfl) dX2_add_1 ⟨Nat.zero_le _, Nat.zero_le _⟩ (fun H locs hw => ?_)
  have hw : Wo D A s [(oX2 a_laws (.int laws_size) (.int laws_holds) (.ref a_laws_codes) (.ref a_laws_lengths) (.ref a_laws_letters) (.ref a_laws_stack)), (a_laws_codes, .inl (cO, 4, .inr (.inr (.inr (.inr (rwF rw)))))), (a_laws_lengths, .inl (cI, 4, .inl laws_lengths)), ((rw 0), .inl (cI, 241, .inl laws_c0)), ((rw 1), .inl (cI, 241, .inl laws_c1)), ((rw 2), .inl (cI, 241, .inl laws_c2)), ((rw 3), .inl (cI, 241, .inl laws_c3)), (a_ar, .inl (cI, ar_n, .inl ar))] H locs := hw
  refine lv_if_ne (tgt := 14) hx hb dX2_add_4 (by decide) (fun hc => ?_) (fun hc => ?_)
  · have hf := (if_neg hc).symm.trans hf
    cases hf
    exact retV C hw dX2_add_14
  · have hf := (if_pos hc).symm.trans hf
    refine lv_iload_n hx hb dX2_add_7 rfl (lv_at hl 2 rfl) ?_
    refine lv_sipush (v := (241 : Int32)) hx hb dX2_add_8 (by decide) ?_
    refine lv_icmp_le (tgt := 15) hx hb dX2_add_11 (by decide) (fun hc => ?_) (fun hc => ?_)
    · have hf := (if_pos hc).symm.trans hf
      refine lv_aload_n hx hb dX2_add_15 rfl (lv_at hl 1 rfl) ?_
      refine lv_iconst (v := (0 : Int32)) hx hb dX2_add_16 (by decide) ?_
      refine lv_aload_n hx hb dX2_add_17 rfl (lv_at hl 0 rfl) ?_
      refine va_get (ci := 2) (v := .ref a_laws_codes) (C := RX2) (T := TX2) (N := 6) hx hb hts in_X2_add_X2 hown hK hw.1 0 rfl rfl 2 (by decide) (hts _ lk_X2_add_0) (fun _ h9 => h9) rfl dX2_add_18 ?_
      refine lv_aload_n hx hb dX2_add_21 rfl (lv_at hl 0 rfl) ?_
      refine va_get (ci := 2) (v := .int laws_size) (C := RX2) (T := TX2) (N := 6) hx hb hts in_X2_add_X2 hown hK hw.1 0 rfl rfl 0 (by decide) (hts _ lk_X2_add_1) (fun _ h9 => h9) rfl dX2_add_22 ?_
      obtain ⟨hc_3, hf⟩ := gd_some hf
      refine ald4 hx hb hK hw.1 1 rfl hc_3 dX2_add_25 (fun h0 => ?_) (fun h0 h1 => ?_) (fun h0 h1 h2 => ?_) (fun h0 h1 h2 => ?_)
      · have hf := (if_pos h0).symm.trans hf
        refine lv_iconst (v := (0 : Int32)) hx hb dX2_add_26 (by decide) ?_
        refine lv_iload_n hx hb dX2_add_27 rfl (lv_at hl 2 rfl) ?_
        obtain ⟨hc_4, hf⟩ := gd_some hf
        obtain ⟨hc_5, hf⟩ := gd_some hf
        obtain ⟨laws_c0_6, e_laws_c0_6, hf⟩ := bnd_some hf
        refine va_copyi hx hb (hml.trans hl.1.symm) hown (hts _ lk_X2_add_2) (hts _ lk_X2_add_3) (hts _ lk_X2_add_4) (hts _ lk_X2_add_5) hK hw.1 hw.2.1 hw.2.2 7 3 0 0 rfl rfl rfl rfl rfl (spB_sp hc_4).1 (spB_sp hc_5).1 (spB_sp hc_4).2.1 (spB_sp hc_4).2.2 (spB_sp hc_5).2.2 (fun _ _ => rfl) (Nat.le_of_ble_eq_true rfl) (Nat.le_of_ble_eq_true rfl) dX2_add_28 (fun H locs hP hD hS => ?_)
        have hw : Wo D A s [(oX2 a_laws (.int laws_size) (.int laws_holds) (.ref a_laws_codes) (.ref a_laws_lengths) (.ref a_laws_letters) (.ref a_laws_stack)), (a_laws_codes, .inl (cO, 4, .inr (.inr (.inr (.inr (rwF rw)))))), (a_laws_lengths, .inl (cI, 4, .inl laws_lengths)), ((rw 0), .inl (cI, 241, .inl laws_c0_6)), ((rw 1), .inl (cI, 241, .inl laws_c1)), ((rw 2), .inl (cI, 241, .inl laws_c2)), ((rw 3), .inl (cI, 241, .inl laws_c3)), (a_ar, .inl (cI, ar_n, .inl ar))] H locs := by rw [e_laws_c0_6]; exact ⟨hP, hD, hS⟩
        refine lv_aload_n hx hb dX2_add_31 rfl (lv_at hl 0 rfl) ?_
        refine va_get (ci := 2) (v := .ref a_laws_lengths) (C := RX2) (T := TX2) (N := 6) hx hb hts in_X2_add_X2 hown hK hw.1 0 rfl rfl 3 (by decide) (hts _ lk_X2_add_6) (fun _ h9 => h9) rfl dX2_add_32 ?_
        refine lv_aload_n hx hb dX2_add_35 rfl (lv_at hl 0 rfl) ?_
        refine va_get (ci := 2) (v := .int laws_size) (C := RX2) (T := TX2) (N := 6) hx hb hts in_X2_add_X2 hown hK hw.1 0 rfl rfl 0 (by decide) (hts _ lk_X2_add_1) (fun _ h9 => h9) rfl dX2_add_36 ?_
        refine lv_iload_n hx hb dX2_add_39 rfl (lv_at hl 2 rfl) ?_
        obtain ⟨hc_7, hf⟩ := gd_some hf
        obtain ⟨laws_lengths_8, e_laws_lengths_8, hf⟩ := bnd_some hf
        refine va_iast hx hb hK hw.1 hw.2.1 hw.2.2 2 0 rfl rfl (inB_in hc_7) dX2_add_40 (fun H locs hP hD hS => ?_)
        have hw : Wo D A s [(oX2 a_laws (.int laws_size) (.int laws_holds) (.ref a_laws_codes) (.ref a_laws_lengths) (.ref a_laws_letters) (.ref a_laws_stack)), (a_laws_codes, .inl (cO, 4, .inr (.inr (.inr (.inr (rwF rw)))))), (a_laws_lengths, .inl (cI, 4, .inl laws_lengths_8)), ((rw 0), .inl (cI, 241, .inl laws_c0_6)), ((rw 1), .inl (cI, 241, .inl laws_c1)), ((rw 2), .inl (cI, 241, .inl laws_c2)), ((rw 3), .inl (cI, 241, .inl laws_c3)), (a_ar, .inl (cI, ar_n, .inl ar))] H locs := by rw [e_laws_lengths_8]; exact ⟨hP, hD, hS⟩
        refine lv_aload_n hx hb dX2_add_41 rfl (lv_at hl 0 rfl) ?_
        refine lv_dup hx hb dX2_add_42 rfl ?_
        refine va_get (ci := 2) (v := .int laws_size) (C := RX2) (T := TX2) (N := 6) hx hb hts in_X2_add_X2 hown hK hw.1 0 rfl rfl 0 (by decide) (hts _ lk_X2_add_1) (fun _ h9 => h9) rfl dX2_add_43 ?_
        refine lv_iconst (v := (1 : Int32)) hx hb dX2_add_46 (by decide) ?_
        refine lv_iadd hx hb dX2_add_47 ?_
        obtain ⟨size_9, e_size_9, hf⟩ := bnd_some hf
        refine lv_nmi e_size_9 ?_
        refine va_put (ci := 2) (v := .int size_9) (ty := .int) (C := RX2) (T := TX2) (N := 6) hx hb hts in_X2_add_X2 tyX2 tyX2_ok nmX2 hown hK hw.1 hw.2.1 hw.2.2 0 rfl rfl 0 (by decide) (hts _ lk_X2_add_1) (fun _ h9 => h9) rfl (by decide +kernel) rfl rfl (Nat.le_of_ble_eq_true rfl) dX2_add_48 (fun H locs hP hD hS => ?_)
        have hw : Wo D A s [(oX2 a_laws (.int size_9) (.int laws_holds) (.ref a_laws_codes) (.ref a_laws_lengths) (.ref a_laws_letters) (.ref a_laws_stack)), (a_laws_codes, .inl (cO, 4, .inr (.inr (.inr (.inr (rwF rw)))))), (a_laws_lengths, .inl (cI, 4, .inl laws_lengths_8)), ((rw 0), .inl (cI, 241, .inl laws_c0_6)), ((rw 1), .inl (cI, 241, .inl laws_c1)), ((rw 2), .inl (cI, 241, .inl laws_c2)), ((rw 3), .inl (cI, 241, .inl laws_c3)), (a_ar, .inl (cI, ar_n, .inl ar))] H locs := ⟨hP, hD, hS⟩
        cases hf
        exact retV C hw dX2_add_51
      · have hf := (if_neg h0).symm.trans hf
        have hf := (if_pos h1).symm.trans hf
        refine lv_iconst (v := (0 : Int32)) hx hb dX2_add_26 (by decide) ?_
        refine lv_iload_n hx hb dX2_add_27 rfl (lv_at hl 2 rfl) ?_
        obtain ⟨hc_10, hf⟩ := gd_some hf
        obtain ⟨hc_11, hf⟩ := gd_some hf
        obtain ⟨laws_c1_12, e_laws_c1_12, hf⟩ := bnd_some hf
        refine va_copyi hx hb (hml.trans hl.1.symm) hown (hts _ lk_X2_add_2) (hts _ lk_X2_add_3) (hts _ lk_X2_add_4) (hts _ lk_X2_add_5) hK hw.1 hw.2.1 hw.2.2 7 4 0 0 rfl rfl rfl rfl rfl (spB_sp hc_10).1 (spB_sp hc_11).1 (spB_sp hc_10).2.1 (spB_sp hc_10).2.2 (spB_sp hc_11).2.2 (fun _ _ => rfl) (Nat.le_of_ble_eq_true rfl) (Nat.le_of_ble_eq_true rfl) dX2_add_28 (fun H locs hP hD hS => ?_)
        have hw : Wo D A s [(oX2 a_laws (.int laws_size) (.int laws_holds) (.ref a_laws_codes) (.ref a_laws_lengths) (.ref a_laws_letters) (.ref a_laws_stack)), (a_laws_codes, .inl (cO, 4, .inr (.inr (.inr (.inr (rwF rw)))))), (a_laws_lengths, .inl (cI, 4, .inl laws_lengths)), ((rw 0), .inl (cI, 241, .inl laws_c0)), ((rw 1), .inl (cI, 241, .inl laws_c1_12)), ((rw 2), .inl (cI, 241, .inl laws_c2)), ((rw 3), .inl (cI, 241, .inl laws_c3)), (a_ar, .inl (cI, ar_n, .inl ar))] H locs := by rw [e_laws_c1_12]; exact ⟨hP, hD, hS⟩
        refine lv_aload_n hx hb dX2_add_31 rfl (lv_at hl 0 rfl) ?_
        refine va_get (ci := 2) (v := .ref a_laws_lengths) (C := RX2) (T := TX2) (N := 6) hx hb hts in_X2_add_X2 hown hK hw.1 0 rfl rfl 3 (by decide) (hts _ lk_X2_add_6) (fun _ h9 => h9) rfl dX2_add_32 ?_
        refine lv_aload_n hx hb dX2_add_35 rfl (lv_at hl 0 rfl) ?_
        refine va_get (ci := 2) (v := .int laws_size) (C := RX2) (T := TX2) (N := 6) hx hb hts in_X2_add_X2 hown hK hw.1 0 rfl rfl 0 (by decide) (hts _ lk_X2_add_1) (fun _ h9 => h9) rfl dX2_add_36 ?_
        refine lv_iload_n hx hb dX2_add_39 rfl (lv_at hl 2 rfl) ?_
        obtain ⟨hc_13, hf⟩ := gd_some hf
        obtain ⟨laws_lengths_14, e_laws_lengths_14, hf⟩ := bnd_some hf
        refine va_iast hx hb hK hw.1 hw.2.1 hw.2.2 2 0 rfl rfl (inB_in hc_13) dX2_add_40 (fun H locs hP hD hS => ?_)
        have hw : Wo D A s [(oX2 a_laws (.int laws_size) (.int laws_holds) (.ref a_laws_codes) (.ref a_laws_lengths) (.ref a_laws_letters) (.ref a_laws_stack)), (a_laws_codes, .inl (cO, 4, .inr (.inr (.inr (.inr (rwF rw)))))), (a_laws_lengths, .inl (cI, 4, .inl laws_lengths_14)), ((rw 0), .inl (cI, 241, .inl laws_c0)), ((rw 1), .inl (cI, 241, .inl laws_c1_12)), ((rw 2), .inl (cI, 241, .inl laws_c2)), ((rw 3), .inl (cI, 241, .inl laws_c3)), (a_ar, .inl (cI, ar_n, .inl ar))] H locs := by rw [e_laws_lengths_14]; exact ⟨hP, hD, hS⟩
        refine lv_aload_n hx hb dX2_add_41 rfl (lv_at hl 0 rfl) ?_
        refine lv_dup hx hb dX2_add_42 rfl ?_
        refine va_get (ci := 2) (v := .int laws_size) (C := RX2) (T := TX2) (N := 6) hx hb hts in_X2_add_X2 hown hK hw.1 0 rfl rfl 0 (by decide) (hts _ lk_X2_add_1) (fun _ h9 => h9) rfl dX2_add_43 ?_
        refine lv_iconst (v := (1 : Int32)) hx hb dX2_add_46 (by decide) ?_
        refine lv_iadd hx hb dX2_add_47 ?_
        obtain ⟨size_15, e_size_15, hf⟩ := bnd_some hf
        refine lv_nmi e_size_15 ?_
        refine va_put (ci := 2) (v := .int size_15) (ty := .int) (C := RX2) (T := TX2) (N := 6) hx hb hts in_X2_add_X2 tyX2 tyX2_ok nmX2 hown hK hw.1 hw.2.1 hw.2.2 0 rfl rfl 0 (by decide) (hts _ lk_X2_add_1) (fun _ h9 => h9) rfl (by decide +kernel) rfl rfl (Nat.le_of_ble_eq_true rfl) dX2_add_48 (fun H locs hP hD hS => ?_)
        have hw : Wo D A s [(oX2 a_laws (.int size_15) (.int laws_holds) (.ref a_laws_codes) (.ref a_laws_lengths) (.ref a_laws_letters) (.ref a_laws_stack)), (a_laws_codes, .inl (cO, 4, .inr (.inr (.inr (.inr (rwF rw)))))), (a_laws_lengths, .inl (cI, 4, .inl laws_lengths_14)), ((rw 0), .inl (cI, 241, .inl laws_c0)), ((rw 1), .inl (cI, 241, .inl laws_c1_12)), ((rw 2), .inl (cI, 241, .inl laws_c2)), ((rw 3), .inl (cI, 241, .inl laws_c3)), (a_ar, .inl (cI, ar_n, .inl ar))] H locs := ⟨hP, hD, hS⟩
        cases hf
        exact retV C hw dX2_add_51
      · have hf := (if_neg h0).symm.trans hf
        have hf := (if_neg h1).symm.trans hf
        have hf := (if_pos h2).symm.trans hf
        refine lv_iconst (v := (0 : Int32)) hx hb dX2_add_26 (by decide) ?_
        refine lv_iload_n hx hb dX2_add_27 rfl (lv_at hl 2 rfl) ?_
        obtain ⟨hc_16, hf⟩ := gd_some hf
        obtain ⟨hc_17, hf⟩ := gd_some hf
        obtain ⟨laws_c2_18, e_laws_c2_18, hf⟩ := bnd_some hf
        refine va_copyi hx hb (hml.trans hl.1.symm) hown (hts _ lk_X2_add_2) (hts _ lk_X2_add_3) (hts _ lk_X2_add_4) (hts _ lk_X2_add_5) hK hw.1 hw.2.1 hw.2.2 7 5 0 0 rfl rfl rfl rfl rfl (spB_sp hc_16).1 (spB_sp hc_17).1 (spB_sp hc_16).2.1 (spB_sp hc_16).2.2 (spB_sp hc_17).2.2 (fun _ _ => rfl) (Nat.le_of_ble_eq_true rfl) (Nat.le_of_ble_eq_true rfl) dX2_add_28 (fun H locs hP hD hS => ?_)
        have hw : Wo D A s [(oX2 a_laws (.int laws_size) (.int laws_holds) (.ref a_laws_codes) (.ref a_laws_lengths) (.ref a_laws_letters) (.ref a_laws_stack)), (a_laws_codes, .inl (cO, 4, .inr (.inr (.inr (.inr (rwF rw)))))), (a_laws_lengths, .inl (cI, 4, .inl laws_lengths)), ((rw 0), .inl (cI, 241, .inl laws_c0)), ((rw 1), .inl (cI, 241, .inl laws_c1)), ((rw 2), .inl (cI, 241, .inl laws_c2_18)), ((rw 3), .inl (cI, 241, .inl laws_c3)), (a_ar, .inl (cI, ar_n, .inl ar))] H locs := by rw [e_laws_c2_18]; exact ⟨hP, hD, hS⟩
        refine lv_aload_n hx hb dX2_add_31 rfl (lv_at hl 0 rfl) ?_
        refine va_get (ci := 2) (v := .ref a_laws_lengths) (C := RX2) (T := TX2) (N := 6) hx hb hts in_X2_add_X2 hown hK hw.1 0 rfl rfl 3 (by decide) (hts _ lk_X2_add_6) (fun _ h9 => h9) rfl dX2_add_32 ?_
        refine lv_aload_n hx hb dX2_add_35 rfl (lv_at hl 0 rfl) ?_
        refine va_get (ci := 2) (v := .int laws_size) (C := RX2) (T := TX2) (N := 6) hx hb hts in_X2_add_X2 hown hK hw.1 0 rfl rfl 0 (by decide) (hts _ lk_X2_add_1) (fun _ h9 => h9) rfl dX2_add_36 ?_
        refine lv_iload_n hx hb dX2_add_39 rfl (lv_at hl 2 rfl) ?_
        obtain ⟨hc_19, hf⟩ := gd_some hf
        obtain ⟨laws_lengths_20, e_laws_lengths_20, hf⟩ := bnd_some hf
        refine va_iast hx hb hK hw.1 hw.2.1 hw.2.2 2 0 rfl rfl (inB_in hc_19) dX2_add_40 (fun H locs hP hD hS => ?_)
        have hw : Wo D A s [(oX2 a_laws (.int laws_size) (.int laws_holds) (.ref a_laws_codes) (.ref a_laws_lengths) (.ref a_laws_letters) (.ref a_laws_stack)), (a_laws_codes, .inl (cO, 4, .inr (.inr (.inr (.inr (rwF rw)))))), (a_laws_lengths, .inl (cI, 4, .inl laws_lengths_20)), ((rw 0), .inl (cI, 241, .inl laws_c0)), ((rw 1), .inl (cI, 241, .inl laws_c1)), ((rw 2), .inl (cI, 241, .inl laws_c2_18)), ((rw 3), .inl (cI, 241, .inl laws_c3)), (a_ar, .inl (cI, ar_n, .inl ar))] H locs := by rw [e_laws_lengths_20]; exact ⟨hP, hD, hS⟩
        refine lv_aload_n hx hb dX2_add_41 rfl (lv_at hl 0 rfl) ?_
        refine lv_dup hx hb dX2_add_42 rfl ?_
        refine va_get (ci := 2) (v := .int laws_size) (C := RX2) (T := TX2) (N := 6) hx hb hts in_X2_add_X2 hown hK hw.1 0 rfl rfl 0 (by decide) (hts _ lk_X2_add_1) (fun _ h9 => h9) rfl dX2_add_43 ?_
        refine lv_iconst (v := (1 : Int32)) hx hb dX2_add_46 (by decide) ?_
        refine lv_iadd hx hb dX2_add_47 ?_
        obtain ⟨size_21, e_size_21, hf⟩ := bnd_some hf
        refine lv_nmi e_size_21 ?_
        refine va_put (ci := 2) (v := .int size_21) (ty := .int) (C := RX2) (T := TX2) (N := 6) hx hb hts in_X2_add_X2 tyX2 tyX2_ok nmX2 hown hK hw.1 hw.2.1 hw.2.2 0 rfl rfl 0 (by decide) (hts _ lk_X2_add_1) (fun _ h9 => h9) rfl (by decide +kernel) rfl rfl (Nat.le_of_ble_eq_true rfl) dX2_add_48 (fun H locs hP hD hS => ?_)
        have hw : Wo D A s [(oX2 a_laws (.int size_21) (.int laws_holds) (.ref a_laws_codes) (.ref a_laws_lengths) (.ref a_laws_letters) (.ref a_laws_stack)), (a_laws_codes, .inl (cO, 4, .inr (.inr (.inr (.inr (rwF rw)))))), (a_laws_lengths, .inl (cI, 4, .inl laws_lengths_20)), ((rw 0), .inl (cI, 241, .inl laws_c0)), ((rw 1), .inl (cI, 241, .inl laws_c1)), ((rw 2), .inl (cI, 241, .inl laws_c2_18)), ((rw 3), .inl (cI, 241, .inl laws_c3)), (a_ar, .inl (cI, ar_n, .inl ar))] H locs := ⟨hP, hD, hS⟩
        cases hf
        exact retV C hw dX2_add_51
      · have hf := (if_neg h0).symm.trans hf
        have hf := (if_neg h1).symm.trans hf
        have hf := (if_neg h2).symm.trans hf
        refine lv_iconst (v := (0 : Int32)) hx hb dX2_add_26 (by decide) ?_
        refine lv_iload_n hx hb dX2_add_27 rfl (lv_at hl 2 rfl) ?_
        obtain ⟨hc_22, hf⟩ := gd_some hf
        obtain ⟨hc_23, hf⟩ := gd_some hf
        obtain ⟨laws_c3_24, e_laws_c3_24, hf⟩ := bnd_some hf
        refine va_copyi hx hb (hml.trans hl.1.symm) hown (hts _ lk_X2_add_2) (hts _ lk_X2_add_3) (hts _ lk_X2_add_4) (hts _ lk_X2_add_5) hK hw.1 hw.2.1 hw.2.2 7 6 0 0 rfl rfl rfl rfl rfl (spB_sp hc_22).1 (spB_sp hc_23).1 (spB_sp hc_22).2.1 (spB_sp hc_22).2.2 (spB_sp hc_23).2.2 (fun _ _ => rfl) (Nat.le_of_ble_eq_true rfl) (Nat.le_of_ble_eq_true rfl) dX2_add_28 (fun H locs hP hD hS => ?_)
        have hw : Wo D A s [(oX2 a_laws (.int laws_size) (.int laws_holds) (.ref a_laws_codes) (.ref a_laws_lengths) (.ref a_laws_letters) (.ref a_laws_stack)), (a_laws_codes, .inl (cO, 4, .inr (.inr (.inr (.inr (rwF rw)))))), (a_laws_lengths, .inl (cI, 4, .inl laws_lengths)), ((rw 0), .inl (cI, 241, .inl laws_c0)), ((rw 1), .inl (cI, 241, .inl laws_c1)), ((rw 2), .inl (cI, 241, .inl laws_c2)), ((rw 3), .inl (cI, 241, .inl laws_c3_24)), (a_ar, .inl (cI, ar_n, .inl ar))] H locs := by rw [e_laws_c3_24]; exact ⟨hP, hD, hS⟩
        refine lv_aload_n hx hb dX2_add_31 rfl (lv_at hl 0 rfl) ?_
        refine va_get (ci := 2) (v := .ref a_laws_lengths) (C := RX2) (T := TX2) (N := 6) hx hb hts in_X2_add_X2 hown hK hw.1 0 rfl rfl 3 (by decide) (hts _ lk_X2_add_6) (fun _ h9 => h9) rfl dX2_add_32 ?_
        refine lv_aload_n hx hb dX2_add_35 rfl (lv_at hl 0 rfl) ?_
        refine va_get (ci := 2) (v := .int laws_size) (C := RX2) (T := TX2) (N := 6) hx hb hts in_X2_add_X2 hown hK hw.1 0 rfl rfl 0 (by decide) (hts _ lk_X2_add_1) (fun _ h9 => h9) rfl dX2_add_36 ?_
        refine lv_iload_n hx hb dX2_add_39 rfl (lv_at hl 2 rfl) ?_
        obtain ⟨hc_25, hf⟩ := gd_some hf
        obtain ⟨laws_lengths_26, e_laws_lengths_26, hf⟩ := bnd_some hf
        refine va_iast hx hb hK hw.1 hw.2.1 hw.2.2 2 0 rfl rfl (inB_in hc_25) dX2_add_40 (fun H locs hP hD hS => ?_)
        have hw : Wo D A s [(oX2 a_laws (.int laws_size) (.int laws_holds) (.ref a_laws_codes) (.ref a_laws_lengths) (.ref a_laws_letters) (.ref a_laws_stack)), (a_laws_codes, .inl (cO, 4, .inr (.inr (.inr (.inr (rwF rw)))))), (a_laws_lengths, .inl (cI, 4, .inl laws_lengths_26)), ((rw 0), .inl (cI, 241, .inl laws_c0)), ((rw 1), .inl (cI, 241, .inl laws_c1)), ((rw 2), .inl (cI, 241, .inl laws_c2)), ((rw 3), .inl (cI, 241, .inl laws_c3_24)), (a_ar, .inl (cI, ar_n, .inl ar))] H locs := by rw [e_laws_lengths_26]; exact ⟨hP, hD, hS⟩
        refine lv_aload_n hx hb dX2_add_41 rfl (lv_at hl 0 rfl) ?_
        refine lv_dup hx hb dX2_add_42 rfl ?_
        refine va_get (ci := 2) (v := .int laws_size) (C := RX2) (T := TX2) (N := 6) hx hb hts in_X2_add_X2 hown hK hw.1 0 rfl rfl 0 (by decide) (hts _ lk_X2_add_1) (fun _ h9 => h9) rfl dX2_add_43 ?_
        refine lv_iconst (v := (1 : Int32)) hx hb dX2_add_46 (by decide) ?_
        refine lv_iadd hx hb dX2_add_47 ?_
        obtain ⟨size_27, e_size_27, hf⟩ := bnd_some hf
        refine lv_nmi e_size_27 ?_
        refine va_put (ci := 2) (v := .int size_27) (ty := .int) (C := RX2) (T := TX2) (N := 6) hx hb hts in_X2_add_X2 tyX2 tyX2_ok nmX2 hown hK hw.1 hw.2.1 hw.2.2 0 rfl rfl 0 (by decide) (hts _ lk_X2_add_1) (fun _ h9 => h9) rfl (by decide +kernel) rfl rfl (Nat.le_of_ble_eq_true rfl) dX2_add_48 (fun H locs hP hD hS => ?_)
        have hw : Wo D A s [(oX2 a_laws (.int size_27) (.int laws_holds) (.ref a_laws_codes) (.ref a_laws_lengths) (.ref a_laws_letters) (.ref a_laws_stack)), (a_laws_codes, .inl (cO, 4, .inr (.inr (.inr (.inr (rwF rw)))))), (a_laws_lengths, .inl (cI, 4, .inl laws_lengths_26)), ((rw 0), .inl (cI, 241, .inl laws_c0)), ((rw 1), .inl (cI, 241, .inl laws_c1)), ((rw 2), .inl (cI, 241, .inl laws_c2)), ((rw 3), .inl (cI, 241, .inl laws_c3_24)), (a_ar, .inl (cI, ar_n, .inl ar))] H locs := ⟨hP, hD, hS⟩
        cases hf
        exact retV C hw dX2_add_51
    · have hf := (if_neg hc).symm.trans hf
      cases hf
      exact retV C hw dX2_add_14
set_option maxHeartbeats 4000000 in
set_option maxRecDepth 100000 in
theorem k_X2_add {l : Launch} {sx : List sx_T} {D : va_G} {cI cZ cO : ClassId} (a_laws : Nat) (a_laws_codes : Nat) (a_laws_lengths : Nat) (a_laws_letters : Nat) (a_laws_stack : Nat) (a_ar : Nat) (rw : Nat → Nat) (ar_n : Nat) (laws_holds : Int32) (ar : Nat → Int32) (o_laws_size : Int32) (o_laws_lengths : Nat → Int32) (o_laws_c0 : Nat → Int32) (o_laws_c1 : Nat → Int32) (o_laws_c2 : Nat → Int32) (o_laws_c3 : Nat → Int32) (laws_size : Int32) (laws_lengths : Nat → Int32) (laws_c0 : Nat → Int32) (laws_c1 : Nat → Int32) (laws_c2 : Nat → Int32) (laws_c3 : Nat → Int32) (p2 : Int32) (hF : f_X2_add ar ar_n laws_size laws_lengths laws_c0 laws_c1 laws_c2 laws_c3 p2 = some (o_laws_size, o_laws_lengths, o_laws_c0, o_laws_c1, o_laws_c2, o_laws_c3)) : CtV l yX2_add wsX2_add rm_X2_add sx D (tyL cI cZ cO) [.ref a_laws, .ref a_ar, .int p2] [(oX2 a_laws (.int laws_size) (.int laws_holds) (.ref a_laws_codes) (.ref a_laws_lengths) (.ref a_laws_letters) (.ref a_laws_stack)), (a_laws_codes, .inl (cO, 4, .inr (.inr (.inr (.inr (rwF rw)))))), (a_laws_lengths, .inl (cI, 4, .inl laws_lengths)), ((rw 0), .inl (cI, 241, .inl laws_c0)), ((rw 1), .inl (cI, 241, .inl laws_c1)), ((rw 2), .inl (cI, 241, .inl laws_c2)), ((rw 3), .inl (cI, 241, .inl laws_c3)), (a_ar, .inl (cI, ar_n, .inl ar))] [(oX2 a_laws (.int o_laws_size) (.int laws_holds) (.ref a_laws_codes) (.ref a_laws_lengths) (.ref a_laws_letters) (.ref a_laws_stack)), (a_laws_codes, .inl (cO, 4, .inr (.inr (.inr (.inr (rwF rw)))))), (a_laws_lengths, .inl (cI, 4, .inl o_laws_lengths)), ((rw 0), .inl (cI, 241, .inl o_laws_c0)), ((rw 1), .inl (cI, 241, .inl o_laws_c1)), ((rw 2), .inl (cI, 241, .inl o_laws_c2)), ((rw 3), .inl (cI, 241, .inl o_laws_c3)), (a_ar, .inl (cI, ar_n, .inl ar))] := by
  refine ctV_of (cc := cX2_add) (ret := none) (maxL := 3) (by decide) rfl (Nat.le_of_ble_eq_true rfl) ?_
  intro p e s m below meth c A ls C K hw hl
  exact q_X2_add_0 C K a_laws a_laws_codes a_laws_lengths a_laws_letters a_laws_stack a_ar rw ar_n laws_holds ar o_laws_size o_laws_lengths o_laws_c0 o_laws_c1 o_laws_c2 o_laws_c3 laws_size laws_lengths laws_c0 laws_c1 laws_c2 laws_c3 p2 hF hw (lv_sub hl [0, 1, 2] rfl)
abbrev rm_X2_endOfClause : Room := { frames := 0, cells := 0, slots := 0, locals := 0 }
set_option maxHeartbeats 4000000 in
set_option maxRecDepth 100000 in
theorem q_X2_endOfClause_2 {p : Program} {l : Launch} {e : Env} {s : State} {m : MethodId} {args : Array Value} {below : List Frame} {meth : Method} {c : Code} {sx : List sx_T} {D : va_G} {cI cZ cO : ClassId} {A : Nat → Prop} (C : Cx p s m args meth c RX2 wsX2_endOfClause cX2_endOfClause 4 (some .int)) (K : Kx sx D (tyL cI cZ cO) A s) (a_ar : Nat) (ar_n : Nat) (ar : Nat → Int32) (r0 : Int32)   (k2 : Int32 → Int32 → Option (Int32)) (hk2 : ∀ (v1 : Int32) (v3 : Int32) (H : Heap) (locs : List Loc) (ls : Array Slot), k2 v1 v3 = some r0 → Wo D A s [(a_ar, .inl (cI, ar_n, .inl ar))] H locs → lv_has ls 4 [(0, .ref a_ar), (1, .int v1), (3, .int v3)] → W p l e rm_X2_endOfClause s m args below meth c H locs 0 0 (MQ below (QcI D A r0 [(a_ar, .inl (cI, ar_n, .inl ar))]) args s 0 0 A) (F0 m 2 ls [])) (v1 : Int32) (v3 : Int32) {H : Heap} {locs : List Loc} {ls : Array Slot} (hf : b_X2_endOfClause_2 ar ar_n k2 v1 v3 = some r0) (hw : Wo D A s [(a_ar, .inl (cI, ar_n, .inl ar))] H locs) (hl : lv_has ls 4 [(0, .ref a_ar), (1, .int v1), (3, .int v3)]) : W p l e rm_X2_endOfClause s m args below meth c H locs 0 0 (MQ below (QcI D A r0 [(a_ar, .inl (cI, ar_n, .inl ar))]) args s 0 0 A) (F0 m 2 ls []) := by
  obtain ⟨hx, hb, hml, hown, hts, hr, hlk⟩ := id C
  obtain ⟨hK, hX, hA⟩ := id K
  unfold b_X2_endOfClause_2 at hf
  refine lv_iload_n hx hb dX2_endOfClause_2 rfl (lv_at hl 2 rfl) ?_
  refine lv_iload_n hx hb dX2_endOfClause_3 rfl (lv_at hl 1 rfl) ?_
  refine lv_icmp_ge (tgt := 23) hx hb dX2_endOfClause_4 (by decide) (fun hc => ?_) (fun hc => ?_)
  · have hf := (if_pos hc).symm.trans hf
    refine lv_iload_n hx hb dX2_endOfClause_23 rfl (lv_at hl 1 rfl) ?_
    clear hk2; cases hf
    exact retI C hw dX2_endOfClause_24 rfl
  · have hf := (if_neg hc).symm.trans hf
    refine lv_aload_n hx hb dX2_endOfClause_7 rfl (lv_at hl 0 rfl) ?_
    refine lv_iload_n hx hb dX2_endOfClause_8 rfl (lv_at hl 2 rfl) ?_
    obtain ⟨hc_1, hf⟩ := gd_some hf
    refine va_iald hx hb hK hw.1 0 0 rfl rfl (inB_in hc_1) dX2_endOfClause_9 ?_
    refine lv_bipush (v := (-13 : Int32)) hx hb dX2_endOfClause_10 (by decide) ?_
    refine lv_icmp_ne (tgt := 17) hx hb dX2_endOfClause_12 (by decide) (fun hc => ?_) (fun hc => ?_)
    · have hf := (if_neg hc).symm.trans hf
      obtain ⟨v3_2, e_v3_2, hf⟩ := bnd_some hf
      refine lv_iinc (v := v3_2) (lv' := [(3, .int v3_2), (0, .ref a_ar), (1, .int v1)]) hx hb dX2_endOfClause_17 hl (k := 2) rfl (by rw [e_v3_2]; rfl) (by decide) rfl (fun ls hl => ?_)
      refine lv_goto (tgt := 2) hx hb dX2_endOfClause_20 (by decide) ?_
      exact hk2 v1 v3_2 _ _ _ hf hw (lv_sub hl [1, 2, 0] rfl)
    · have hf := (if_pos hc).symm.trans hf
      refine lv_iload_n hx hb dX2_endOfClause_15 rfl (lv_at hl 2 rfl) ?_
      clear hk2; cases hf
      exact retI C hw dX2_endOfClause_16 rfl
theorem qf_X2_endOfClause_2 {p : Program} {l : Launch} {e : Env} {s : State} {m : MethodId} {args : Array Value} {below : List Frame} {meth : Method} {c : Code} {sx : List sx_T} {D : va_G} {cI cZ cO : ClassId} {A : Nat → Prop} (C : Cx p s m args meth c RX2 wsX2_endOfClause cX2_endOfClause 4 (some .int)) (K : Kx sx D (tyL cI cZ cO) A s) (a_ar : Nat) (ar_n : Nat) (ar : Nat → Int32) (r0 : Int32)    (n : Nat) : ∀ (v1 : Int32) (v3 : Int32) (H : Heap) (locs : List Loc) (ls : Array Slot), f_X2_endOfClause_2 ar ar_n  n v1 v3 = some r0 → Wo D A s [(a_ar, .inl (cI, ar_n, .inl ar))] H locs → lv_has ls 4 [(0, .ref a_ar), (1, .int v1), (3, .int v3)] → W p l e rm_X2_endOfClause s m args below meth c H locs 0 0 (MQ below (QcI D A r0 [(a_ar, .inl (cI, ar_n, .inl ar))]) args s 0 0 A) (F0 m 2 ls []) := by
  induction n with
  | zero =>
    intro v1 v3 H locs ls hf
    have h9 : (none : Option (Int32)) = some r0 := hf
    cases h9
  | succ n ih =>
    intro v1 v3 H locs ls hf hw hl
    exact q_X2_endOfClause_2 C K a_ar ar_n ar r0  (f_X2_endOfClause_2 ar ar_n  n) ih v1 v3 hf hw hl
set_option maxHeartbeats 4000000 in
set_option maxRecDepth 100000 in
theorem q_X2_endOfClause_0 {p : Program} {l : Launch} {e : Env} {s : State} {m : MethodId} {args : Array Value} {below : List Frame} {meth : Method} {c : Code} {sx : List sx_T} {D : va_G} {cI cZ cO : ClassId} {A : Nat → Prop} (C : Cx p s m args meth c RX2 wsX2_endOfClause cX2_endOfClause 4 (some .int)) (K : Kx sx D (tyL cI cZ cO) A s) (a_ar : Nat) (ar_n : Nat) (ar : Nat → Int32) (r0 : Int32)    (v1 : Int32) (v2 : Int32) {H : Heap} {locs : List Loc} {ls : Array Slot} (hf : b_X2_endOfClause_0 ar ar_n  v1 v2 = some r0) (hw : Wo D A s [(a_ar, .inl (cI, ar_n, .inl ar))] H locs) (hl : lv_has ls 4 [(0, .ref a_ar), (1, .int v1), (2, .int v2)]) : W p l e rm_X2_endOfClause s m args below meth c H locs 0 0 (MQ below (QcI D A r0 [(a_ar, .inl (cI, ar_n, .inl ar))]) args s 0 0 A) (F0 m 0 ls []) := by
  obtain ⟨hx, hb, hml, hown, hts, hr, hlk⟩ := id C
  obtain ⟨hK, hX, hA⟩ := id K
  unfold b_X2_endOfClause_0 at hf
  refine lv_iload_n hx hb dX2_endOfClause_0 rfl (lv_at hl 2 rfl) ?_
  refine lv_istore_n (lv' := [(3, .int v2), (0, .ref a_ar), (1, .int v1), (2, .int v2)]) hx hb dX2_endOfClause_1 rfl hl (by decide) rfl (fun ls hl => ?_)
  exact qf_X2_endOfClause_2 C K a_ar ar_n ar r0  fu v1 v2 _ _ _ hf hw (lv_sub hl [1, 2, 0] rfl)
set_option maxHeartbeats 4000000 in
set_option maxRecDepth 100000 in
theorem k_X2_endOfClause {l : Launch} {sx : List sx_T} {D : va_G} {cI cZ cO : ClassId} (a_ar : Nat) (ar_n : Nat) (ar : Nat → Int32) (r0 : Int32) (p2 : Int32) (p3 : Int32) (hF : f_X2_endOfClause ar ar_n p2 p3 = some r0) : CtI l yX2_endOfClause wsX2_endOfClause rm_X2_endOfClause sx D (tyL cI cZ cO) [.ref a_ar, .int p2, .int p3] [(a_ar, .inl (cI, ar_n, .inl ar))] r0 [(a_ar, .inl (cI, ar_n, .inl ar))] := by
  refine ctI_of (cc := cX2_endOfClause) (ret := (some .int)) (maxL := 4) (by decide) rfl (Nat.le_of_ble_eq_true rfl) ?_
  intro p e s m below meth c A ls C K hw hl
  exact q_X2_endOfClause_0 C K a_ar ar_n ar r0 p2 p3 hF hw (lv_sub hl [0, 1, 2] rfl)
abbrev rm_X2_combine : Room := { frames := 0, cells := 0, slots := 0, locals := 0 }
theorem lk_X2_combine_0 : Cond.constantLong RX2 68 (1000000 : Int64) ∈ wsX2_combine := List.mem_cons_of_mem _ (bi_wsL_law0_r30 _ (List.mem_of_getElem? (i := 23) rfl))
theorem lk_X2_combine_1 : Cond.constantLong RX2 71 (-1000000 : Int64) ∈ wsX2_combine := List.mem_cons_of_mem _ (bi_wsL_law0_r31 _ (List.mem_of_getElem? (i := 1) rfl))
theorem lk_X2_combine_2 : Cond.constant RX2 73 (-1000000 : Int32) ∈ wsX2_combine := List.mem_cons_of_mem _ (bi_wsL_law0_r31 _ (List.mem_of_getElem? (i := 2) rfl))
theorem lk_X2_combine_3 : Cond.constant RX2 70 (1000000 : Int32) ∈ wsX2_combine := List.mem_cons_of_mem _ (bi_wsL_law0_r31 _ (List.mem_of_getElem? (i := 0) rfl))
set_option maxHeartbeats 4000000 in
set_option maxRecDepth 100000 in
theorem q_X2_combine_162 {p : Program} {l : Launch} {e : Env} {s : State} {m : MethodId} {args : Array Value} {below : List Frame} {meth : Method} {c : Code} {sx : List sx_T} {D : va_G} {cI cZ cO : ClassId} {A : Nat → Prop} (C : Cx p s m args meth c RX2 wsX2_combine cX2_combine 7 (some .int)) (K : Kx sx D (tyL cI cZ cO) A s) (r0 : Int32)    (v5 : Int64) {H : Heap} {locs : List Loc} {ls : Array Slot} (hf : b_X2_combine_162   v5 = some r0) (hw : Wo D A s [] H locs) (hl : lv_has ls 7 [(5, .long v5)]) : W p l e rm_X2_combine s m args below meth c H locs 0 0 (MQ below (QcI D A r0 []) args s 0 0 A) (F0 m 162 ls []) := by
  obtain ⟨hx, hb, hml, hown, hts, hr, hlk⟩ := id C
  obtain ⟨hK, hX, hA⟩ := id K
  unfold b_X2_combine_162 at hf
  refine lv_lload hx hb dX2_combine_162 (lv_at hl 0 rfl) ?_
  refine lv_ldc2 (v := (1000000 : Int64)) hx hb hown (hts _ lk_X2_combine_0) dX2_combine_164 ?_
  refine W.lcmp hx hb dX2_combine_167 ?_
  refine lv_if_le (tgt := 174) hx hb dX2_combine_168 (by decide) (fun hc => ?_) (fun hc => ?_)
  · have hf := (if_pos hc).symm.trans hf
    refine lv_lload hx hb dX2_combine_174 (lv_at hl 0 rfl) ?_
    refine lv_ldc2 (v := (-1000000 : Int64)) hx hb hown (hts _ lk_X2_combine_1) dX2_combine_176 ?_
    refine W.lcmp hx hb dX2_combine_179 ?_
    refine lv_if_ge (tgt := 188) hx hb dX2_combine_180 (by decide) (fun hc => ?_) (fun hc => ?_)
    · have hf := (if_pos hc).symm.trans hf
      refine lv_lload hx hb dX2_combine_188 (lv_at hl 0 rfl) ?_
      refine lv_l2i (v := v5.toInt32) hx hb dX2_combine_190 rfl ?_
      cases hf
      exact retI C hw dX2_combine_191 rfl
    · have hf := (if_neg hc).symm.trans hf
      refine lv_ldc (v := (-1000000 : Int32)) hx hb hown (hts _ lk_X2_combine_2) dX2_combine_183 ?_
      refine lv_goto (tgt := 191) hx hb dX2_combine_185 (by decide) ?_
      cases hf
      exact retI C hw dX2_combine_191 rfl
  · have hf := (if_neg hc).symm.trans hf
    refine lv_ldc (v := (1000000 : Int32)) hx hb hown (hts _ lk_X2_combine_3) dX2_combine_171 ?_
    cases hf
    exact retI C hw dX2_combine_173 rfl
set_option maxHeartbeats 4000000 in
set_option maxRecDepth 100000 in
theorem q_X2_combine_85 {p : Program} {l : Launch} {e : Env} {s : State} {m : MethodId} {args : Array Value} {below : List Frame} {meth : Method} {c : Code} {sx : List sx_T} {D : va_G} {cI cZ cO : ClassId} {A : Nat → Prop} (C : Cx p s m args meth c RX2 wsX2_combine cX2_combine 7 (some .int)) (K : Kx sx D (tyL cI cZ cO) A s) (r0 : Int32)    (t0 : Int64) {H : Heap} {locs : List Loc} {ls : Array Slot} (hf : b_X2_combine_85   t0 = some r0) (hw : Wo D A s [] H locs) (hl : lv_has ls 7 []) : W p l e rm_X2_combine s m args below meth c H locs 0 0 (MQ below (QcI D A r0 []) args s 0 0 A) (F0 m 85 ls [.long t0]) := by
  obtain ⟨hx, hb, hml, hown, hts, hr, hlk⟩ := id C
  obtain ⟨hK, hX, hA⟩ := id K
  unfold b_X2_combine_85 at hf
  refine lv_lstore (lv' := [(5, .long t0)]) hx hb dX2_combine_85 hl (by decide) rfl (fun ls hl => ?_)
  refine lv_goto (tgt := 162) hx hb dX2_combine_87 (by decide) ?_
  exact q_X2_combine_162 C K r0  t0 hf hw (lv_sub hl [0] rfl)
set_option maxHeartbeats 4000000 in
set_option maxRecDepth 100000 in
theorem q_X2_combine_156 {p : Program} {l : Launch} {e : Env} {s : State} {m : MethodId} {args : Array Value} {below : List Frame} {meth : Method} {c : Code} {sx : List sx_T} {D : va_G} {cI cZ cO : ClassId} {A : Nat → Prop} (C : Cx p s m args meth c RX2 wsX2_combine cX2_combine 7 (some .int)) (K : Kx sx D (tyL cI cZ cO) A s) (r0 : Int32)     {H : Heap} {locs : List Loc} {ls : Array Slot} (hf : b_X2_combine_156    = some r0) (hw : Wo D A s [] H locs) (hl : lv_has ls 7 []) : W p l e rm_X2_combine s m args below meth c H locs 0 0 (MQ below (QcI D A r0 []) args s 0 0 A) (F0 m 156 ls []) := by
  obtain ⟨hx, hb, hml, hown, hts, hr, hlk⟩ := id C
  obtain ⟨hK, hX, hA⟩ := id K
  unfold b_X2_combine_156 at hf
  refine lv_iconst (v := (1 : Int32)) hx hb dX2_combine_156 (by decide) ?_
  refine lv_goto (tgt := 161) hx hb dX2_combine_157 (by decide) ?_
  cases hf
  exact retI C hw dX2_combine_161 rfl
set_option maxHeartbeats 4000000 in
set_option maxRecDepth 100000 in
theorem q_X2_combine_0 {p : Program} {l : Launch} {e : Env} {s : State} {m : MethodId} {args : Array Value} {below : List Frame} {meth : Method} {c : Code} {sx : List sx_T} {D : va_G} {cI cZ cO : ClassId} {A : Nat → Prop} (C : Cx p s m args meth c RX2 wsX2_combine cX2_combine 7 (some .int)) (K : Kx sx D (tyL cI cZ cO) A s) (r0 : Int32)    (v0 : Int32) (v1 : Int64) (v3 : Int64) {H : Heap} {locs : List Loc} {ls : Array Slot} (hf : b_X2_combine_0   v0 v1 v3 = some r0) (hw : Wo D A s [] H locs) (hl : lv_has ls 7 [(0, .int v0), (1, .long v1), (3, .long v3)]) : W p l e rm_X2_combine s m args below meth c H locs 0 0 (MQ below (QcI D A r0 []) args s 0 0 A) (F0 m 0 ls []) := by
  obtain ⟨hx, hb, hml, hown, hts, hr, hlk⟩ := id C
  obtain ⟨hK, hX, hA⟩ := id K
  unfold b_X2_combine_0 at hf
  refine lv_iload_n hx hb dX2_combine_0 rfl (lv_at hl 0 rfl) ?_
  by_cases hm9 : v0 = (-9 : Int32)
  · have hf := (if_pos hm9).symm.trans hf
    refine lv_tableIn (tgt := 126) hx hb dX2_combine_1 (by rw [hm9]; decide) (by rw [hm9]; decide) (by rw [hm9]; rfl) (by decide) ?_
    refine lv_lload_n hx hb dX2_combine_126 rfl (lv_at hl 1 rfl) ?_
    refine lv_lconst (v := (0 : Int64)) hx hb dX2_combine_127 (by decide) ?_
    refine W.lcmp hx hb dX2_combine_128 ?_
    refine lv_if_eq (tgt := 142) hx hb dX2_combine_129 (by decide) (fun hc => ?_) (fun hc => ?_)
    · have hf := (if_pos hc).symm.trans hf
      refine lv_iconst (v := (0 : Int32)) hx hb dX2_combine_142 (by decide) ?_
      cases hf
      exact retI C hw dX2_combine_143 rfl
    · have hf := (if_neg hc).symm.trans hf
      refine lv_lload_n hx hb dX2_combine_132 rfl (lv_at hl 2 rfl) ?_
      refine lv_lconst (v := (0 : Int64)) hx hb dX2_combine_133 (by decide) ?_
      refine W.lcmp hx hb dX2_combine_134 ?_
      refine lv_if_eq (tgt := 142) hx hb dX2_combine_135 (by decide) (fun hc => ?_) (fun hc => ?_)
      · have hf := (if_pos hc).symm.trans hf
        refine lv_iconst (v := (0 : Int32)) hx hb dX2_combine_142 (by decide) ?_
        cases hf
        exact retI C hw dX2_combine_143 rfl
      · have hf := (if_neg hc).symm.trans hf
        refine lv_iconst (v := (1 : Int32)) hx hb dX2_combine_138 (by decide) ?_
        refine lv_goto (tgt := 143) hx hb dX2_combine_139 (by decide) ?_
        cases hf
        exact retI C hw dX2_combine_143 rfl
  have hf := (if_neg hm9).symm.trans hf
  by_cases hm8 : v0 = (-8 : Int32)
  · have hf := (if_pos hm8).symm.trans hf
    refine lv_tableIn (tgt := 114) hx hb dX2_combine_1 (by rw [hm8]; decide) (by rw [hm8]; decide) (by rw [hm8]; rfl) (by decide) ?_
    refine lv_lload_n hx hb dX2_combine_114 rfl (lv_at hl 1 rfl) ?_
    refine lv_lload_n hx hb dX2_combine_115 rfl (lv_at hl 2 rfl) ?_
    refine W.lcmp hx hb dX2_combine_116 ?_
    refine lv_if_le (tgt := 124) hx hb dX2_combine_117 (by decide) (fun hc => ?_) (fun hc => ?_)
    · have hf := (if_pos hc).symm.trans hf
      refine lv_iconst (v := (0 : Int32)) hx hb dX2_combine_124 (by decide) ?_
      cases hf
      exact retI C hw dX2_combine_125 rfl
    · have hf := (if_neg hc).symm.trans hf
      refine lv_iconst (v := (1 : Int32)) hx hb dX2_combine_120 (by decide) ?_
      refine lv_goto (tgt := 125) hx hb dX2_combine_121 (by decide) ?_
      cases hf
      exact retI C hw dX2_combine_125 rfl
  have hf := (if_neg hm8).symm.trans hf
  by_cases hm7 : v0 = (-7 : Int32)
  · have hf := (if_pos hm7).symm.trans hf
    refine lv_tableIn (tgt := 102) hx hb dX2_combine_1 (by rw [hm7]; decide) (by rw [hm7]; decide) (by rw [hm7]; rfl) (by decide) ?_
    refine lv_lload_n hx hb dX2_combine_102 rfl (lv_at hl 1 rfl) ?_
    refine lv_lload_n hx hb dX2_combine_103 rfl (lv_at hl 2 rfl) ?_
    refine W.lcmp hx hb dX2_combine_104 ?_
    refine lv_if_ge (tgt := 112) hx hb dX2_combine_105 (by decide) (fun hc => ?_) (fun hc => ?_)
    · have hf := (if_pos hc).symm.trans hf
      refine lv_iconst (v := (0 : Int32)) hx hb dX2_combine_112 (by decide) ?_
      cases hf
      exact retI C hw dX2_combine_113 rfl
    · have hf := (if_neg hc).symm.trans hf
      refine lv_iconst (v := (1 : Int32)) hx hb dX2_combine_108 (by decide) ?_
      refine lv_goto (tgt := 113) hx hb dX2_combine_109 (by decide) ?_
      cases hf
      exact retI C hw dX2_combine_113 rfl
  have hf := (if_neg hm7).symm.trans hf
  by_cases hm6 : v0 = (-6 : Int32)
  · have hf := (if_pos hm6).symm.trans hf
    refine lv_tableIn (tgt := 90) hx hb dX2_combine_1 (by rw [hm6]; decide) (by rw [hm6]; decide) (by rw [hm6]; rfl) (by decide) ?_
    refine lv_lload_n hx hb dX2_combine_90 rfl (lv_at hl 1 rfl) ?_
    refine lv_lload_n hx hb dX2_combine_91 rfl (lv_at hl 2 rfl) ?_
    refine W.lcmp hx hb dX2_combine_92 ?_
    refine lv_if_ne (tgt := 100) hx hb dX2_combine_93 (by decide) (fun hc => ?_) (fun hc => ?_)
    · have hf := (if_neg hc).symm.trans hf
      refine lv_iconst (v := (0 : Int32)) hx hb dX2_combine_100 (by decide) ?_
      cases hf
      exact retI C hw dX2_combine_101 rfl
    · have hf := (if_pos hc).symm.trans hf
      refine lv_iconst (v := (1 : Int32)) hx hb dX2_combine_96 (by decide) ?_
      refine lv_goto (tgt := 101) hx hb dX2_combine_97 (by decide) ?_
      cases hf
      exact retI C hw dX2_combine_101 rfl
  have hf := (if_neg hm6).symm.trans hf
  by_cases hm5 : v0 = (-5 : Int32)
  · have hf := (if_pos hm5).symm.trans hf
    refine lv_tableIn (tgt := 72) hx hb dX2_combine_1 (by rw [hm5]; decide) (by rw [hm5]; decide) (by rw [hm5]; rfl) (by decide) ?_
    refine lv_lload_n hx hb dX2_combine_72 rfl (lv_at hl 2 rfl) ?_
    refine lv_lconst (v := (0 : Int64)) hx hb dX2_combine_73 (by decide) ?_
    refine W.lcmp hx hb dX2_combine_74 ?_
    refine lv_if_ne (tgt := 82) hx hb dX2_combine_75 (by decide) (fun hc => ?_) (fun hc => ?_)
    · have hf := (if_neg hc).symm.trans hf
      refine lv_lload_n hx hb dX2_combine_82 rfl (lv_at hl 1 rfl) ?_
      refine lv_lload_n hx hb dX2_combine_83 rfl (lv_at hl 2 rfl) ?_
      obtain ⟨hc_1, hf⟩ := gd_some hf
      refine lv_ldiv hx hb dX2_combine_84 (nzL_nz hc_1) ?_
      exact q_X2_combine_85 C K r0  (v1 / v3) hf hw (lv_sub hl [] rfl)
    · have hf := (if_pos hc).symm.trans hf
      refine lv_lconst (v := (0 : Int64)) hx hb dX2_combine_78 (by decide) ?_
      refine lv_goto (tgt := 85) hx hb dX2_combine_79 (by decide) ?_
      exact q_X2_combine_85 C K r0  (0 : Int64) hf hw (lv_sub hl [] rfl)
  have hf := (if_neg hm5).symm.trans hf
  by_cases hm4 : v0 = (-4 : Int32)
  · have hf := (if_pos hm4).symm.trans hf
    refine lv_tableIn (tgt := 64) hx hb dX2_combine_1 (by rw [hm4]; decide) (by rw [hm4]; decide) (by rw [hm4]; rfl) (by decide) ?_
    refine lv_lload_n hx hb dX2_combine_64 rfl (lv_at hl 1 rfl) ?_
    refine lv_lload_n hx hb dX2_combine_65 rfl (lv_at hl 2 rfl) ?_
    refine lv_lmul hx hb dX2_combine_66 ?_
    obtain ⟨v5_2, e_v5_2, hf⟩ := bnd_some hf
    refine lv_nml e_v5_2 ?_
    refine lv_lstore (lv' := [(5, .long v5_2), (0, .int v0), (1, .long v1), (3, .long v3)]) hx hb dX2_combine_67 hl (by decide) rfl (fun ls hl => ?_)
    refine lv_goto (tgt := 162) hx hb dX2_combine_69 (by decide) ?_
    exact q_X2_combine_162 C K r0  v5_2 hf hw (lv_sub hl [0] rfl)
  have hf := (if_neg hm4).symm.trans hf
  by_cases hm3 : v0 = (-3 : Int32)
  · have hf := (if_pos hm3).symm.trans hf
    refine lv_tableIn (tgt := 56) hx hb dX2_combine_1 (by rw [hm3]; decide) (by rw [hm3]; decide) (by rw [hm3]; rfl) (by decide) ?_
    refine lv_lload_n hx hb dX2_combine_56 rfl (lv_at hl 1 rfl) ?_
    refine lv_lload_n hx hb dX2_combine_57 rfl (lv_at hl 2 rfl) ?_
    refine lv_lsub hx hb dX2_combine_58 ?_
    obtain ⟨v5_3, e_v5_3, hf⟩ := bnd_some hf
    refine lv_nml e_v5_3 ?_
    refine lv_lstore (lv' := [(5, .long v5_3), (0, .int v0), (1, .long v1), (3, .long v3)]) hx hb dX2_combine_59 hl (by decide) rfl (fun ls hl => ?_)
    refine lv_goto (tgt := 162) hx hb dX2_combine_61 (by decide) ?_
    exact q_X2_combine_162 C K r0  v5_3 hf hw (lv_sub hl [0] rfl)
  have hf := (if_neg hm3).symm.trans hf
  by_cases hm2 : v0 = (-2 : Int32)
  · have hf := (if_pos hm2).symm.trans hf
    refine lv_tableIn (tgt := 48) hx hb dX2_combine_1 (by rw [hm2]; decide) (by rw [hm2]; decide) (by rw [hm2]; rfl) (by decide) ?_
    refine lv_lload_n hx hb dX2_combine_48 rfl (lv_at hl 1 rfl) ?_
    refine lv_lload_n hx hb dX2_combine_49 rfl (lv_at hl 2 rfl) ?_
    refine lv_ladd hx hb dX2_combine_50 ?_
    obtain ⟨v5_4, e_v5_4, hf⟩ := bnd_some hf
    refine lv_nml e_v5_4 ?_
    refine lv_lstore (lv' := [(5, .long v5_4), (0, .int v0), (1, .long v1), (3, .long v3)]) hx hb dX2_combine_51 hl (by decide) rfl (fun ls hl => ?_)
    refine lv_goto (tgt := 162) hx hb dX2_combine_53 (by decide) ?_
    exact q_X2_combine_162 C K r0  v5_4 hf hw (lv_sub hl [0] rfl)
  have hf := (if_neg hm2).symm.trans hf
  refine lv_tableOut (tgt := 144) hx hb dX2_combine_1 (by have zhm9 := lv_neT (a := -9) hm9 (by decide); have zhm8 := lv_neT (a := -8) hm8 (by decide); have zhm7 := lv_neT (a := -7) hm7 (by decide); have zhm6 := lv_neT (a := -6) hm6 (by decide); have zhm5 := lv_neT (a := -5) hm5 (by decide); have zhm4 := lv_neT (a := -4) hm4 (by decide); have zhm3 := lv_neT (a := -3) hm3 (by decide); have zhm2 := lv_neT (a := -2) hm2 (by decide); omega) (by decide) ?_
  refine lv_lload_n hx hb dX2_combine_144 rfl (lv_at hl 1 rfl) ?_
  refine lv_lconst (v := (0 : Int64)) hx hb dX2_combine_145 (by decide) ?_
  refine W.lcmp hx hb dX2_combine_146 ?_
  refine lv_if_ne (tgt := 156) hx hb dX2_combine_147 (by decide) (fun hc => ?_) (fun hc => ?_)
  · have hf := (if_neg hc).symm.trans hf
    exact q_X2_combine_156 C K r0   hf hw (lv_sub hl [] rfl)
  · have hf := (if_pos hc).symm.trans hf
    refine lv_lload_n hx hb dX2_combine_150 rfl (lv_at hl 2 rfl) ?_
    refine lv_lconst (v := (0 : Int64)) hx hb dX2_combine_151 (by decide) ?_
    refine W.lcmp hx hb dX2_combine_152 ?_
    refine lv_if_eq (tgt := 160) hx hb dX2_combine_153 (by decide) (fun hc => ?_) (fun hc => ?_)
    · have hf := (if_pos hc).symm.trans hf
      refine lv_iconst (v := (0 : Int32)) hx hb dX2_combine_160 (by decide) ?_
      cases hf
      exact retI C hw dX2_combine_161 rfl
    · have hf := (if_neg hc).symm.trans hf
      exact q_X2_combine_156 C K r0   hf hw (lv_sub hl [] rfl)
set_option maxHeartbeats 4000000 in
set_option maxRecDepth 100000 in
theorem k_X2_combine {l : Launch} {sx : List sx_T} {D : va_G} {cI cZ cO : ClassId} (r0 : Int32) (p1 : Int32) (p2 : Int64) (p3 : Int64) (hF : f_X2_combine p1 p2 p3 = some r0) : CtI l yX2_combine wsX2_combine rm_X2_combine sx D (tyL cI cZ cO) [.int p1, .long p2, .long p3] [] r0 [] := by
  refine ctI_of (cc := cX2_combine) (ret := (some .int)) (maxL := 7) (by decide) rfl (Nat.le_of_ble_eq_true rfl) ?_
  intro p e s m below meth c A ls C K hw hl
  exact q_X2_combine_0 C K r0 p1 p2 p3 hF hw (lv_sub hl [0, 1, 2] rfl)
abbrev rm_X2_worth : Room := { frames := 1, cells := 0, slots := 0, locals := 26 }
theorem in_X2_worth_X2 : ∀ w ∈ u_ws RX2 TX2 6, w ∈ wsX2_worth := fun w h => List.mem_cons_of_mem _ (bi_wsX20 w h)
theorem lk_X2_worth_0 : Cond.fieldLink RX2 31 "GloveHouses$Laws" "stack" "[I" ∈ wsX2_worth := List.mem_cons_of_mem _ (bi_wsL_law0_r5 _ (List.mem_of_getElem? (i := 6) rfl))
theorem lk_X2_worth_1 : Cond.initialized RX2 ∈ wsX2_worth := List.mem_cons_of_mem _ (bi_wsL_law0_r2 _ (List.mem_of_getElem? (i := 8) rfl))
theorem lk_X2_worth_2 : Cond.methodLink RX2 60 yX2_endOfClause ∈ wsX2_worth := List.mem_cons_of_mem _ (bi_wsL_law0_r30 _ (List.mem_of_getElem? (i := 17) rfl))
theorem lk_X2_worth_3 : Cond.static yX2_endOfClause ∈ wsX2_worth := List.mem_cons_of_mem _ (bi_wsL_law0_r30 _ (List.mem_of_getElem? (i := 18) rfl))
theorem lk_X2_worth_4 : Cond.fieldLink RX2 28 "GloveHouses$Laws" "letters" "[I" ∈ wsX2_worth := List.mem_cons_of_mem _ (bi_wsL_law0_r5 _ (List.mem_of_getElem? (i := 5) rfl))
theorem lk_X2_worth_5 : Cond.methodLink RX2 64 yX2_combine ∈ wsX2_worth := List.mem_cons_of_mem _ (bi_wsL_law0_r30 _ (List.mem_of_getElem? (i := 20) rfl))
theorem lk_X2_worth_6 : Cond.static yX2_combine ∈ wsX2_worth := List.mem_cons_of_mem _ (bi_wsL_law0_r30 _ (List.mem_of_getElem? (i := 21) rfl))
set_option maxHeartbeats 4000000 in
set_option maxRecDepth 100000 in
theorem q_X2_worth_173 {p : Program} {l : Launch} {e : Env} {s : State} {m : MethodId} {args : Array Value} {below : List Frame} {meth : Method} {c : Code} {sx : List sx_T} {D : va_G} {cI cZ cO : ClassId} {A : Nat → Prop} (C : Cx p s m args meth c RX2 wsX2_worth cX2_worth 6 (some .int)) (K : Kx sx D (tyL cI cZ cO) A s) (a_laws : Nat) (a_laws_codes : Nat) (a_laws_lengths : Nat) (a_laws_letters : Nat) (a_laws_stack : Nat) (a_ar : Nat) (ar_n : Nat) (laws_size : Int32) (laws_holds : Int32) (laws_letters : Nat → Int32) (ar : Nat → Int32) (r0 : Int32) (o_laws_stack : Nat → Int32)   (k5 : (Nat → Int32) → Int32 → Int32 → Int32 → Option (Int32 × (Nat → Int32))) (hk5 : ∀ (laws_stack : Nat → Int32) (v2 : Int32) (v3 : Int32) (v4 : Int32) (H : Heap) (locs : List Loc) (ls : Array Slot), k5 laws_stack v2 v3 v4 = some (r0, o_laws_stack) → Wo D A s [(oX2 a_laws (.int laws_size) (.int laws_holds) (.ref a_laws_codes) (.ref a_laws_lengths) (.ref a_laws_letters) (.ref a_laws_stack)), (a_laws_letters, .inl (cI, 6, .inl laws_letters)), (a_laws_stack, .inl (cI, 241, .inl laws_stack)), (a_ar, .inl (cI, ar_n, .inl ar))] H locs → lv_has ls 6 [(0, .ref a_laws), (1, .ref a_ar), (2, .int v2), (3, .int v3), (4, .int v4)] → W p l e rm_X2_worth s m args below meth c H locs 0 0 (MQ below (QcI D A r0 [(oX2 a_laws (.int laws_size) (.int laws_holds) (.ref a_laws_codes) (.ref a_laws_lengths) (.ref a_laws_letters) (.ref a_laws_stack)), (a_laws_letters, .inl (cI, 6, .inl laws_letters)), (a_laws_stack, .inl (cI, 241, .inl o_laws_stack)), (a_ar, .inl (cI, ar_n, .inl ar))]) args s 0 0 A) (F0 m 5 ls [])) (laws_stack : Nat → Int32) (v2 : Int32) (v3 : Int32) (v4 : Int32) {H : Heap} {locs : List Loc} {ls : Array Slot} (hf : b_X2_worth_173 laws_letters ar ar_n k5 laws_stack v2 v3 v4 = some (r0, o_laws_stack)) (hw : Wo D A s [(oX2 a_laws (.int laws_size) (.int laws_holds) (.ref a_laws_codes) (.ref a_laws_lengths) (.ref a_laws_letters) (.ref a_laws_stack)), (a_laws_letters, .inl (cI, 6, .inl laws_letters)), (a_laws_stack, .inl (cI, 241, .inl laws_stack)), (a_ar, .inl (cI, ar_n, .inl ar))] H locs) (hl : lv_has ls 6 [(0, .ref a_laws), (1, .ref a_ar), (2, .int v2), (3, .int v3), (4, .int v4)]) : W p l e rm_X2_worth s m args below meth c H locs 0 0 (MQ below (QcI D A r0 [(oX2 a_laws (.int laws_size) (.int laws_holds) (.ref a_laws_codes) (.ref a_laws_lengths) (.ref a_laws_letters) (.ref a_laws_stack)), (a_laws_letters, .inl (cI, 6, .inl laws_letters)), (a_laws_stack, .inl (cI, 241, .inl o_laws_stack)), (a_ar, .inl (cI, ar_n, .inl ar))]) args s 0 0 A) (F0 m 173 ls []) := by
  obtain ⟨hx, hb, hml, hown, hts, hr, hlk⟩ := id C
  obtain ⟨hK, hX, hA⟩ := id K
  unfold b_X2_worth_173 at hf
  obtain ⟨v4_1, e_v4_1, hf⟩ := bnd_some hf
  refine lv_iinc (v := v4_1) (lv' := [(4, .int v4_1), (0, .ref a_laws), (1, .ref a_ar), (2, .int v2), (3, .int v3)]) hx hb dX2_worth_173 hl (k := 4) rfl (by rw [e_v4_1]; rfl) (by decide) rfl (fun ls hl => ?_)
  refine lv_goto (tgt := 5) hx hb dX2_worth_176 (by decide) ?_
  exact hk5 laws_stack v2 v3 v4_1 _ _ _ hf hw (lv_sub hl [1, 2, 3, 4, 0] rfl)
set_option maxHeartbeats 4000000 in
set_option maxRecDepth 100000 in
theorem q_X2_worth_61 {p : Program} {l : Launch} {e : Env} {s : State} {m : MethodId} {args : Array Value} {below : List Frame} {meth : Method} {c : Code} {sx : List sx_T} {D : va_G} {cI cZ cO : ClassId} {A : Nat → Prop} (C : Cx p s m args meth c RX2 wsX2_worth cX2_worth 6 (some .int)) (K : Kx sx D (tyL cI cZ cO) A s) (a_laws : Nat) (a_laws_codes : Nat) (a_laws_lengths : Nat) (a_laws_letters : Nat) (a_laws_stack : Nat) (a_ar : Nat) (ar_n : Nat) (laws_size : Int32) (laws_holds : Int32) (laws_letters : Nat → Int32) (ar : Nat → Int32) (r0 : Int32) (o_laws_stack : Nat → Int32)   (k5 : (Nat → Int32) → Int32 → Int32 → Int32 → Option (Int32 × (Nat → Int32))) (hk5 : ∀ (laws_stack : Nat → Int32) (v2 : Int32) (v3 : Int32) (v4 : Int32) (H : Heap) (locs : List Loc) (ls : Array Slot), k5 laws_stack v2 v3 v4 = some (r0, o_laws_stack) → Wo D A s [(oX2 a_laws (.int laws_size) (.int laws_holds) (.ref a_laws_codes) (.ref a_laws_lengths) (.ref a_laws_letters) (.ref a_laws_stack)), (a_laws_letters, .inl (cI, 6, .inl laws_letters)), (a_laws_stack, .inl (cI, 241, .inl laws_stack)), (a_ar, .inl (cI, ar_n, .inl ar))] H locs → lv_has ls 6 [(0, .ref a_laws), (1, .ref a_ar), (2, .int v2), (3, .int v3), (4, .int v4)] → W p l e rm_X2_worth s m args below meth c H locs 0 0 (MQ below (QcI D A r0 [(oX2 a_laws (.int laws_size) (.int laws_holds) (.ref a_laws_codes) (.ref a_laws_lengths) (.ref a_laws_letters) (.ref a_laws_stack)), (a_laws_letters, .inl (cI, 6, .inl laws_letters)), (a_laws_stack, .inl (cI, 241, .inl o_laws_stack)), (a_ar, .inl (cI, ar_n, .inl ar))]) args s 0 0 A) (F0 m 5 ls [])) (laws_stack : Nat → Int32) (v2 : Int32) (v3 : Int32) (t0 : Int32) {H : Heap} {locs : List Loc} {ls : Array Slot} (hf : b_X2_worth_61 laws_letters ar ar_n k5 laws_stack v2 v3 t0 = some (r0, o_laws_stack)) (hw : Wo D A s [(oX2 a_laws (.int laws_size) (.int laws_holds) (.ref a_laws_codes) (.ref a_laws_lengths) (.ref a_laws_letters) (.ref a_laws_stack)), (a_laws_letters, .inl (cI, 6, .inl laws_letters)), (a_laws_stack, .inl (cI, 241, .inl laws_stack)), (a_ar, .inl (cI, ar_n, .inl ar))] H locs) (hl : lv_has ls 6 [(0, .ref a_laws), (1, .ref a_ar), (2, .int v2), (3, .int v3)]) : W p l e rm_X2_worth s m args below meth c H locs 0 0 (MQ below (QcI D A r0 [(oX2 a_laws (.int laws_size) (.int laws_holds) (.ref a_laws_codes) (.ref a_laws_lengths) (.ref a_laws_letters) (.ref a_laws_stack)), (a_laws_letters, .inl (cI, 6, .inl laws_letters)), (a_laws_stack, .inl (cI, 241, .inl o_laws_stack)), (a_ar, .inl (cI, ar_n, .inl ar))]) args s 0 0 A) (F0 m 61 ls [.int t0]) := by
  obtain ⟨hx, hb, hml, hown, hts, hr, hlk⟩ := id C
  obtain ⟨hK, hX, hA⟩ := id K
  unfold b_X2_worth_61 at hf
  refine lv_istore (lv' := [(4, .int t0), (0, .ref a_laws), (1, .ref a_ar), (2, .int v2), (3, .int v3)]) hx hb dX2_worth_61 hl (by decide) rfl (fun ls hl => ?_)
  refine lv_goto (tgt := 173) hx hb dX2_worth_63 (by decide) ?_
  exact q_X2_worth_173 C K a_laws a_laws_codes a_laws_lengths a_laws_letters a_laws_stack a_ar ar_n laws_size laws_holds laws_letters ar r0 o_laws_stack k5 hk5 laws_stack v2 v3 t0 hf hw (lv_sub hl [1, 2, 3, 4, 0] rfl)
set_option maxHeartbeats 4000000 in
set_option maxRecDepth 100000 in
theorem q_X2_worth_106 {p : Program} {l : Launch} {e : Env} {s : State} {m : MethodId} {args : Array Value} {below : List Frame} {meth : Method} {c : Code} {sx : List sx_T} {D : va_G} {cI cZ cO : ClassId} {A : Nat → Prop} (C : Cx p s m args meth c RX2 wsX2_worth cX2_worth 6 (some .int)) (K : Kx sx D (tyL cI cZ cO) A s) (a_laws : Nat) (a_laws_codes : Nat) (a_laws_lengths : Nat) (a_laws_letters : Nat) (a_laws_stack : Nat) (a_ar : Nat) (ar_n : Nat) (laws_size : Int32) (laws_holds : Int32) (laws_letters : Nat → Int32) (ar : Nat → Int32) (r0 : Int32) (o_laws_stack : Nat → Int32)   (k5 : (Nat → Int32) → Int32 → Int32 → Int32 → Option (Int32 × (Nat → Int32))) (hk5 : ∀ (laws_stack : Nat → Int32) (v2 : Int32) (v3 : Int32) (v4 : Int32) (H : Heap) (locs : List Loc) (ls : Array Slot), k5 laws_stack v2 v3 v4 = some (r0, o_laws_stack) → Wo D A s [(oX2 a_laws (.int laws_size) (.int laws_holds) (.ref a_laws_codes) (.ref a_laws_lengths) (.ref a_laws_letters) (.ref a_laws_stack)), (a_laws_letters, .inl (cI, 6, .inl laws_letters)), (a_laws_stack, .inl (cI, 241, .inl laws_stack)), (a_ar, .inl (cI, ar_n, .inl ar))] H locs → lv_has ls 6 [(0, .ref a_laws), (1, .ref a_ar), (2, .int v2), (3, .int v3), (4, .int v4)] → W p l e rm_X2_worth s m args below meth c H locs 0 0 (MQ below (QcI D A r0 [(oX2 a_laws (.int laws_size) (.int laws_holds) (.ref a_laws_codes) (.ref a_laws_lengths) (.ref a_laws_letters) (.ref a_laws_stack)), (a_laws_letters, .inl (cI, 6, .inl laws_letters)), (a_laws_stack, .inl (cI, 241, .inl o_laws_stack)), (a_ar, .inl (cI, ar_n, .inl ar))]) args s 0 0 A) (F0 m 5 ls [])) (laws_stack : Nat → Int32) (v2 : Int32) (v3 : Int32) (v4 : Int32) (t1 : Int32) (t2 : Int32) {H : Heap} {locs : List Loc} {ls : Array Slot} (hf : b_X2_worth_106 laws_letters ar ar_n k5 laws_stack v2 v3 v4 t1 t2 = some (r0, o_laws_stack)) (hw : Wo D A s [(oX2 a_laws (.int laws_size) (.int laws_holds) (.ref a_laws_codes) (.ref a_laws_lengths) (.ref a_laws_letters) (.ref a_laws_stack)), (a_laws_letters, .inl (cI, 6, .inl laws_letters)), (a_laws_stack, .inl (cI, 241, .inl laws_stack)), (a_ar, .inl (cI, ar_n, .inl ar))] H locs) (hl : lv_has ls 6 [(0, .ref a_laws), (1, .ref a_ar), (2, .int v2), (3, .int v3), (4, .int v4)]) : W p l e rm_X2_worth s m args below meth c H locs 0 0 (MQ below (QcI D A r0 [(oX2 a_laws (.int laws_size) (.int laws_holds) (.ref a_laws_codes) (.ref a_laws_lengths) (.ref a_laws_letters) (.ref a_laws_stack)), (a_laws_letters, .inl (cI, 6, .inl laws_letters)), (a_laws_stack, .inl (cI, 241, .inl o_laws_stack)), (a_ar, .inl (cI, ar_n, .inl ar))]) args s 0 0 A) (F0 m 106 ls [.int t2, .int t1, .ref a_laws_stack]) := by
  obtain ⟨hx, hb, hml, hown, hts, hr, hlk⟩ := id C
  obtain ⟨hK, hX, hA⟩ := id K
  unfold b_X2_worth_106 at hf
  obtain ⟨hc_1, hf⟩ := gd_some hf
  obtain ⟨laws_stack_2, e_laws_stack_2, hf⟩ := bnd_some hf
  refine va_iast hx hb hK hw.1 hw.2.1 hw.2.2 2 0 rfl rfl (inB_in hc_1) dX2_worth_106 (fun H locs hP hD hS => ?_)
  have hw : Wo D A s [(oX2 a_laws (.int laws_size) (.int laws_holds) (.ref a_laws_codes) (.ref a_laws_lengths) (.ref a_laws_letters) (.ref a_laws_stack)), (a_laws_letters, .inl (cI, 6, .inl laws_letters)), (a_laws_stack, .inl (cI, 241, .inl laws_stack_2)), (a_ar, .inl (cI, ar_n, .inl ar))] H locs := by rw [e_laws_stack_2]; exact ⟨hP, hD, hS⟩
  refine lv_goto (tgt := 173) hx hb dX2_worth_107 (by decide) ?_
  exact q_X2_worth_173 C K a_laws a_laws_codes a_laws_lengths a_laws_letters a_laws_stack a_ar ar_n laws_size laws_holds laws_letters ar r0 o_laws_stack k5 hk5 laws_stack_2 v2 v3 v4 hf hw (lv_sub hl [0, 1, 2, 3, 4] rfl)
set_option maxHeartbeats 4000000 in
set_option maxRecDepth 100000 in
theorem q_X2_worth_78 {p : Program} {l : Launch} {e : Env} {s : State} {m : MethodId} {args : Array Value} {below : List Frame} {meth : Method} {c : Code} {sx : List sx_T} {D : va_G} {cI cZ cO : ClassId} {A : Nat → Prop} (C : Cx p s m args meth c RX2 wsX2_worth cX2_worth 6 (some .int)) (K : Kx sx D (tyL cI cZ cO) A s) (a_laws : Nat) (a_laws_codes : Nat) (a_laws_lengths : Nat) (a_laws_letters : Nat) (a_laws_stack : Nat) (a_ar : Nat) (ar_n : Nat) (laws_size : Int32) (laws_holds : Int32) (laws_letters : Nat → Int32) (ar : Nat → Int32) (r0 : Int32) (o_laws_stack : Nat → Int32)   (k5 : (Nat → Int32) → Int32 → Int32 → Int32 → Option (Int32 × (Nat → Int32))) (hk5 : ∀ (laws_stack : Nat → Int32) (v2 : Int32) (v3 : Int32) (v4 : Int32) (H : Heap) (locs : List Loc) (ls : Array Slot), k5 laws_stack v2 v3 v4 = some (r0, o_laws_stack) → Wo D A s [(oX2 a_laws (.int laws_size) (.int laws_holds) (.ref a_laws_codes) (.ref a_laws_lengths) (.ref a_laws_letters) (.ref a_laws_stack)), (a_laws_letters, .inl (cI, 6, .inl laws_letters)), (a_laws_stack, .inl (cI, 241, .inl laws_stack)), (a_ar, .inl (cI, ar_n, .inl ar))] H locs → lv_has ls 6 [(0, .ref a_laws), (1, .ref a_ar), (2, .int v2), (3, .int v3), (4, .int v4)] → W p l e rm_X2_worth s m args below meth c H locs 0 0 (MQ below (QcI D A r0 [(oX2 a_laws (.int laws_size) (.int laws_holds) (.ref a_laws_codes) (.ref a_laws_lengths) (.ref a_laws_letters) (.ref a_laws_stack)), (a_laws_letters, .inl (cI, 6, .inl laws_letters)), (a_laws_stack, .inl (cI, 241, .inl o_laws_stack)), (a_ar, .inl (cI, ar_n, .inl ar))]) args s 0 0 A) (F0 m 5 ls [])) (laws_stack : Nat → Int32) (v2 : Int32) (v3 : Int32) (v4 : Int32) (v5 : Int32) {H : Heap} {locs : List Loc} {ls : Array Slot} (hf : b_X2_worth_78 laws_letters ar ar_n k5 laws_stack v2 v3 v4 v5 = some (r0, o_laws_stack)) (hw : Wo D A s [(oX2 a_laws (.int laws_size) (.int laws_holds) (.ref a_laws_codes) (.ref a_laws_lengths) (.ref a_laws_letters) (.ref a_laws_stack)), (a_laws_letters, .inl (cI, 6, .inl laws_letters)), (a_laws_stack, .inl (cI, 241, .inl laws_stack)), (a_ar, .inl (cI, ar_n, .inl ar))] H locs) (hl : lv_has ls 6 [(0, .ref a_laws), (1, .ref a_ar), (2, .int v2), (3, .int v3), (4, .int v4), (5, .int v5)]) : W p l e rm_X2_worth s m args below meth c H locs 0 0 (MQ below (QcI D A r0 [(oX2 a_laws (.int laws_size) (.int laws_holds) (.ref a_laws_codes) (.ref a_laws_lengths) (.ref a_laws_letters) (.ref a_laws_stack)), (a_laws_letters, .inl (cI, 6, .inl laws_letters)), (a_laws_stack, .inl (cI, 241, .inl o_laws_stack)), (a_ar, .inl (cI, ar_n, .inl ar))]) args s 0 0 A) (F0 m 78 ls []) := by
  obtain ⟨hx, hb, hml, hown, hts, hr, hlk⟩ := id C
  obtain ⟨hK, hX, hA⟩ := id K
  unfold b_X2_worth_78 at hf
  obtain ⟨v3_1, e_v3_1, hf⟩ := bnd_some hf
  refine lv_iinc (v := v3_1) (lv' := [(3, .int v3_1), (0, .ref a_laws), (1, .ref a_ar), (2, .int v2), (4, .int v4), (5, .int v5)]) hx hb dX2_worth_78 hl (k := 3) rfl (by rw [e_v3_1]; rfl) (by decide) rfl (fun ls hl => ?_)
  refine lv_aload_n hx hb dX2_worth_81 rfl (lv_at hl 1 rfl) ?_
  refine va_get (ci := 2) (v := .ref a_laws_stack) (C := RX2) (T := TX2) (N := 6) hx hb hts in_X2_worth_X2 hown hK hw.1 0 rfl rfl 5 (by decide) (hts _ lk_X2_worth_0) (fun _ h9 => h9) rfl dX2_worth_82 ?_
  refine lv_iload_n hx hb dX2_worth_85 rfl (lv_at hl 0 rfl) ?_
  refine lv_iload hx hb dX2_worth_86 (lv_at hl 5 rfl) ?_
  refine lv_if_lt (tgt := 96) hx hb dX2_worth_88 (by decide) (fun hc => ?_) (fun hc => ?_)
  · have hf := (if_pos hc).symm.trans hf
    refine lv_aload_n hx hb dX2_worth_96 rfl (lv_at hl 1 rfl) ?_
    refine va_get (ci := 2) (v := .ref a_laws_letters) (C := RX2) (T := TX2) (N := 6) hx hb hts in_X2_worth_X2 hown hK hw.1 0 rfl rfl 4 (by decide) (hts _ lk_X2_worth_4) (fun _ h9 => h9) rfl dX2_worth_97 ?_
    refine lv_bipush (v := (-14 : Int32)) hx hb dX2_worth_100 (by decide) ?_
    refine lv_iload hx hb dX2_worth_102 (lv_at hl 5 rfl) ?_
    refine lv_isub hx hb dX2_worth_104 ?_
    obtain ⟨hc_2, hf⟩ := gd_some hf
    refine va_iald hx hb hK hw.1 1 0 rfl rfl (inB_in hc_2) dX2_worth_105 ?_
    exact q_X2_worth_106 C K a_laws a_laws_codes a_laws_lengths a_laws_letters a_laws_stack a_ar ar_n laws_size laws_holds laws_letters ar r0 o_laws_stack k5 hk5 laws_stack v2 v3_1 v4 v3_1 (laws_letters ((-14 : Int32) - v5).toNatClampNeg) hf hw (lv_sub hl [1, 2, 3, 0, 4] rfl)
  · have hf := (if_neg hc).symm.trans hf
    refine lv_iload hx hb dX2_worth_91 (lv_at hl 5 rfl) ?_
    refine lv_goto (tgt := 106) hx hb dX2_worth_93 (by decide) ?_
    exact q_X2_worth_106 C K a_laws a_laws_codes a_laws_lengths a_laws_letters a_laws_stack a_ar ar_n laws_size laws_holds laws_letters ar r0 o_laws_stack k5 hk5 laws_stack v2 v3_1 v4 v3_1 v5 hf hw (lv_sub hl [1, 2, 3, 0, 4] rfl)
set_option maxHeartbeats 4000000 in
set_option maxRecDepth 100000 in
theorem q_X2_worth_138 {p : Program} {l : Launch} {e : Env} {s : State} {m : MethodId} {args : Array Value} {below : List Frame} {meth : Method} {c : Code} {sx : List sx_T} {D : va_G} {cI cZ cO : ClassId} {A : Nat → Prop} (C : Cx p s m args meth c RX2 wsX2_worth cX2_worth 6 (some .int)) (K : Kx sx D (tyL cI cZ cO) A s) (a_laws : Nat) (a_laws_codes : Nat) (a_laws_lengths : Nat) (a_laws_letters : Nat) (a_laws_stack : Nat) (a_ar : Nat) (ar_n : Nat) (laws_size : Int32) (laws_holds : Int32) (laws_letters : Nat → Int32) (ar : Nat → Int32) (r0 : Int32) (o_laws_stack : Nat → Int32)   (k5 : (Nat → Int32) → Int32 → Int32 → Int32 → Option (Int32 × (Nat → Int32))) (hk5 : ∀ (laws_stack : Nat → Int32) (v2 : Int32) (v3 : Int32) (v4 : Int32) (H : Heap) (locs : List Loc) (ls : Array Slot), k5 laws_stack v2 v3 v4 = some (r0, o_laws_stack) → Wo D A s [(oX2 a_laws (.int laws_size) (.int laws_holds) (.ref a_laws_codes) (.ref a_laws_lengths) (.ref a_laws_letters) (.ref a_laws_stack)), (a_laws_letters, .inl (cI, 6, .inl laws_letters)), (a_laws_stack, .inl (cI, 241, .inl laws_stack)), (a_ar, .inl (cI, ar_n, .inl ar))] H locs → lv_has ls 6 [(0, .ref a_laws), (1, .ref a_ar), (2, .int v2), (3, .int v3), (4, .int v4)] → W p l e rm_X2_worth s m args below meth c H locs 0 0 (MQ below (QcI D A r0 [(oX2 a_laws (.int laws_size) (.int laws_holds) (.ref a_laws_codes) (.ref a_laws_lengths) (.ref a_laws_letters) (.ref a_laws_stack)), (a_laws_letters, .inl (cI, 6, .inl laws_letters)), (a_laws_stack, .inl (cI, 241, .inl o_laws_stack)), (a_ar, .inl (cI, ar_n, .inl ar))]) args s 0 0 A) (F0 m 5 ls [])) (laws_stack : Nat → Int32) (v2 : Int32) (v3 : Int32) (v4 : Int32) (v5 : Int32) {H : Heap} {locs : List Loc} {ls : Array Slot} (hf : b_X2_worth_138 laws_letters ar ar_n k5 laws_stack v2 v3 v4 v5 = some (r0, o_laws_stack)) (hw : Wo D A s [(oX2 a_laws (.int laws_size) (.int laws_holds) (.ref a_laws_codes) (.ref a_laws_lengths) (.ref a_laws_letters) (.ref a_laws_stack)), (a_laws_letters, .inl (cI, 6, .inl laws_letters)), (a_laws_stack, .inl (cI, 241, .inl laws_stack)), (a_ar, .inl (cI, ar_n, .inl ar))] H locs) (hl : lv_has ls 6 [(0, .ref a_laws), (1, .ref a_ar), (2, .int v2), (3, .int v3), (4, .int v4), (5, .int v5)]) : W p l e rm_X2_worth s m args below meth c H locs 0 0 (MQ below (QcI D A r0 [(oX2 a_laws (.int laws_size) (.int laws_holds) (.ref a_laws_codes) (.ref a_laws_lengths) (.ref a_laws_letters) (.ref a_laws_stack)), (a_laws_letters, .inl (cI, 6, .inl laws_letters)), (a_laws_stack, .inl (cI, 241, .inl o_laws_stack)), (a_ar, .inl (cI, ar_n, .inl ar))]) args s 0 0 A) (F0 m 138 ls []) := by
  obtain ⟨hx, hb, hml, hown, hts, hr, hlk⟩ := id C
  obtain ⟨hK, hX, hA⟩ := id K
  unfold b_X2_worth_138 at hf
  refine lv_iload_n hx hb dX2_worth_138 rfl (lv_at hl 3 rfl) ?_
  refine lv_iconst (v := (1 : Int32)) hx hb dX2_worth_139 (by decide) ?_
  refine lv_icmp_lt (tgt := 173) hx hb dX2_worth_140 (by decide) (fun hc => ?_) (fun hc => ?_)
  · have hf := (if_pos hc).symm.trans hf
    exact q_X2_worth_173 C K a_laws a_laws_codes a_laws_lengths a_laws_letters a_laws_stack a_ar ar_n laws_size laws_holds laws_letters ar r0 o_laws_stack k5 hk5 laws_stack v2 v3 v4 hf hw (lv_sub hl [0, 1, 2, 3, 4] rfl)
  · have hf := (if_neg hc).symm.trans hf
    obtain ⟨v3_1, e_v3_1, hf⟩ := bnd_some hf
    refine lv_iinc (v := v3_1) (lv' := [(3, .int v3_1), (0, .ref a_laws), (1, .ref a_ar), (2, .int v2), (4, .int v4), (5, .int v5)]) hx hb dX2_worth_143 hl (k := 3) rfl (by rw [e_v3_1]; rfl) (by decide) rfl (fun ls hl => ?_)
    refine lv_aload_n hx hb dX2_worth_146 rfl (lv_at hl 1 rfl) ?_
    refine va_get (ci := 2) (v := .ref a_laws_stack) (C := RX2) (T := TX2) (N := 6) hx hb hts in_X2_worth_X2 hown hK hw.1 0 rfl rfl 5 (by decide) (hts _ lk_X2_worth_0) (fun _ h9 => h9) rfl dX2_worth_147 ?_
    refine lv_iload_n hx hb dX2_worth_150 rfl (lv_at hl 0 rfl) ?_
    refine lv_iload hx hb dX2_worth_151 (lv_at hl 5 rfl) ?_
    refine lv_aload_n hx hb dX2_worth_153 rfl (lv_at hl 1 rfl) ?_
    refine va_get (ci := 2) (v := .ref a_laws_stack) (C := RX2) (T := TX2) (N := 6) hx hb hts in_X2_worth_X2 hown hK hw.1 0 rfl rfl 5 (by decide) (hts _ lk_X2_worth_0) (fun _ h9 => h9) rfl dX2_worth_154 ?_
    refine lv_iload_n hx hb dX2_worth_157 rfl (lv_at hl 0 rfl) ?_
    obtain ⟨hc_2, hf⟩ := gd_some hf
    refine va_iald hx hb hK hw.1 2 0 rfl rfl (inB_in hc_2) dX2_worth_158 ?_
    refine lv_i2l (v := (laws_stack v3_1.toNatClampNeg).toInt64) hx hb dX2_worth_159 rfl ?_
    refine lv_aload_n hx hb dX2_worth_160 rfl (lv_at hl 1 rfl) ?_
    refine va_get (ci := 2) (v := .ref a_laws_stack) (C := RX2) (T := TX2) (N := 6) hx hb hts in_X2_worth_X2 hown hK hw.1 0 rfl rfl 5 (by decide) (hts _ lk_X2_worth_0) (fun _ h9 => h9) rfl dX2_worth_161 ?_
    refine lv_iload_n hx hb dX2_worth_164 rfl (lv_at hl 0 rfl) ?_
    refine lv_iconst (v := (1 : Int32)) hx hb dX2_worth_165 (by decide) ?_
    refine lv_iadd hx hb dX2_worth_166 ?_
    obtain ⟨hc_3, hf⟩ := gd_some hf
    refine va_iald hx hb hK hw.1 2 0 rfl rfl (inB_in hc_3) dX2_worth_167 ?_
    refine lv_i2l (v := (laws_stack (v3_1 + (1 : Int32)).toNatClampNeg).toInt64) hx hb dX2_worth_168 rfl ?_
    obtain ⟨r_4, hg_5, hf⟩ := ob1_some hf
    refine cl_SiA (As := [.int v5, .long ((laws_stack v3_1.toNatClampNeg).toInt64), .long ((laws_stack (v3_1 + (1 : Int32)).toNatClampNeg).toInt64)]) (rest := [.int v3_1, .ref a_laws_stack]) C K hw (k_X2_combine r_4 v5 ((laws_stack v3_1.toNatClampNeg).toInt64) ((laws_stack (v3_1 + (1 : Int32)).toNatClampNeg).toInt64) hg_5) [] rfl (by decide) rfl rfl ⟨callB_of 3 hts (fun w h => gX2_worth_X2_combine w (List.mem_append_right _ h)) rfl rfl rfl (hts _ lk_X2_worth_1) (hts _ lk_X2_worth_5) (by decide +kernel) ⟨Nat.le_of_ble_eq_true rfl, Nat.le_of_ble_eq_true rfl⟩, hts _ lk_X2_worth_6⟩ rfl hl rfl (Nat.le_of_ble_eq_true rfl) dX2_worth_169 ⟨Nat.zero_le _, Nat.zero_le _⟩ (fun H locs hw => ?_)
    have hw : Wo D A s [(oX2 a_laws (.int laws_size) (.int laws_holds) (.ref a_laws_codes) (.ref a_laws_lengths) (.ref a_laws_letters) (.ref a_laws_stack)), (a_laws_letters, .inl (cI, 6, .inl laws_letters)), (a_laws_stack, .inl (cI, 241, .inl laws_stack)), (a_ar, .inl (cI, ar_n, .inl ar))] H locs := hw
    obtain ⟨hc_6, hf⟩ := gd_some hf
    obtain ⟨laws_stack_7, e_laws_stack_7, hf⟩ := bnd_some hf
    refine va_iast hx hb hK hw.1 hw.2.1 hw.2.2 2 0 rfl rfl (inB_in hc_6) dX2_worth_172 (fun H locs hP hD hS => ?_)
    have hw : Wo D A s [(oX2 a_laws (.int laws_size) (.int laws_holds) (.ref a_laws_codes) (.ref a_laws_lengths) (.ref a_laws_letters) (.ref a_laws_stack)), (a_laws_letters, .inl (cI, 6, .inl laws_letters)), (a_laws_stack, .inl (cI, 241, .inl laws_stack_7)), (a_ar, .inl (cI, ar_n, .inl ar))] H locs := by rw [e_laws_stack_7]; exact ⟨hP, hD, hS⟩
    exact q_X2_worth_173 C K a_laws a_laws_codes a_laws_lengths a_laws_letters a_laws_stack a_ar ar_n laws_size laws_holds laws_letters ar r0 o_laws_stack k5 hk5 laws_stack_7 v2 v3_1 v4 hf hw (lv_sub hl [1, 2, 3, 0, 4] rfl)
set_option maxHeartbeats 4000000 in
set_option maxRecDepth 100000 in
theorem q_X2_worth_5 {p : Program} {l : Launch} {e : Env} {s : State} {m : MethodId} {args : Array Value} {below : List Frame} {meth : Method} {c : Code} {sx : List sx_T} {D : va_G} {cI cZ cO : ClassId} {A : Nat → Prop} (C : Cx p s m args meth c RX2 wsX2_worth cX2_worth 6 (some .int)) (K : Kx sx D (tyL cI cZ cO) A s) (a_laws : Nat) (a_laws_codes : Nat) (a_laws_lengths : Nat) (a_laws_letters : Nat) (a_laws_stack : Nat) (a_ar : Nat) (ar_n : Nat) (laws_size : Int32) (laws_holds : Int32) (laws_letters : Nat → Int32) (ar : Nat → Int32) (r0 : Int32) (o_laws_stack : Nat → Int32)   (k5 : (Nat → Int32) → Int32 → Int32 → Int32 → Option (Int32 × (Nat → Int32))) (hk5 : ∀ (laws_stack : Nat → Int32) (v2 : Int32) (v3 : Int32) (v4 : Int32) (H : Heap) (locs : List Loc) (ls : Array Slot), k5 laws_stack v2 v3 v4 = some (r0, o_laws_stack) → Wo D A s [(oX2 a_laws (.int laws_size) (.int laws_holds) (.ref a_laws_codes) (.ref a_laws_lengths) (.ref a_laws_letters) (.ref a_laws_stack)), (a_laws_letters, .inl (cI, 6, .inl laws_letters)), (a_laws_stack, .inl (cI, 241, .inl laws_stack)), (a_ar, .inl (cI, ar_n, .inl ar))] H locs → lv_has ls 6 [(0, .ref a_laws), (1, .ref a_ar), (2, .int v2), (3, .int v3), (4, .int v4)] → W p l e rm_X2_worth s m args below meth c H locs 0 0 (MQ below (QcI D A r0 [(oX2 a_laws (.int laws_size) (.int laws_holds) (.ref a_laws_codes) (.ref a_laws_lengths) (.ref a_laws_letters) (.ref a_laws_stack)), (a_laws_letters, .inl (cI, 6, .inl laws_letters)), (a_laws_stack, .inl (cI, 241, .inl o_laws_stack)), (a_ar, .inl (cI, ar_n, .inl ar))]) args s 0 0 A) (F0 m 5 ls [])) (laws_stack : Nat → Int32) (v2 : Int32) (v3 : Int32) (v4 : Int32) {H : Heap} {locs : List Loc} {ls : Array Slot} (hf : b_X2_worth_5 laws_letters ar ar_n k5 laws_stack v2 v3 v4 = some (r0, o_laws_stack)) (hw : Wo D A s [(oX2 a_laws (.int laws_size) (.int laws_holds) (.ref a_laws_codes) (.ref a_laws_lengths) (.ref a_laws_letters) (.ref a_laws_stack)), (a_laws_letters, .inl (cI, 6, .inl laws_letters)), (a_laws_stack, .inl (cI, 241, .inl laws_stack)), (a_ar, .inl (cI, ar_n, .inl ar))] H locs) (hl : lv_has ls 6 [(0, .ref a_laws), (1, .ref a_ar), (2, .int v2), (3, .int v3), (4, .int v4)]) : W p l e rm_X2_worth s m args below meth c H locs 0 0 (MQ below (QcI D A r0 [(oX2 a_laws (.int laws_size) (.int laws_holds) (.ref a_laws_codes) (.ref a_laws_lengths) (.ref a_laws_letters) (.ref a_laws_stack)), (a_laws_letters, .inl (cI, 6, .inl laws_letters)), (a_laws_stack, .inl (cI, 241, .inl o_laws_stack)), (a_ar, .inl (cI, ar_n, .inl ar))]) args s 0 0 A) (F0 m 5 ls []) := by
  obtain ⟨hx, hb, hml, hown, hts, hr, hlk⟩ := id C
  obtain ⟨hK, hX, hA⟩ := id K
  unfold b_X2_worth_5 at hf
  refine lv_iload hx hb dX2_worth_5 (lv_at hl 4 rfl) ?_
  refine lv_iload_n hx hb dX2_worth_7 rfl (lv_at hl 2 rfl) ?_
  refine lv_icmp_ge (tgt := 179) hx hb dX2_worth_8 (by decide) (fun hc => ?_) (fun hc => ?_)
  · have hf := (if_pos hc).symm.trans hf
    refine lv_iconst (v := (0 : Int32)) hx hb dX2_worth_179 (by decide) ?_
    clear hk5; cases hf
    exact retI C hw dX2_worth_180 rfl
  · have hf := (if_neg hc).symm.trans hf
    refine lv_aload_n hx hb dX2_worth_11 rfl (lv_at hl 1 rfl) ?_
    refine lv_iload hx hb dX2_worth_12 (lv_at hl 4 rfl) ?_
    obtain ⟨hc_1, hf⟩ := gd_some hf
    refine va_iald hx hb hK hw.1 3 0 rfl rfl (inB_in hc_1) dX2_worth_14 ?_
    obtain ⟨v5_2, e_v5_2, hf⟩ := bnd_some hf
    refine lv_nmi e_v5_2 ?_
    refine lv_istore (lv' := [(5, .int v5_2), (0, .ref a_laws), (1, .ref a_ar), (2, .int v2), (3, .int v3), (4, .int v4)]) hx hb dX2_worth_15 hl (by decide) rfl (fun ls hl => ?_)
    refine lv_iload hx hb dX2_worth_17 (lv_at hl 0 rfl) ?_
    refine lv_bipush (v := (-13 : Int32)) hx hb dX2_worth_19 (by decide) ?_
    refine lv_icmp_ne (tgt := 31) hx hb dX2_worth_21 (by decide) (fun hc => ?_) (fun hc => ?_)
    · have hf := (if_neg hc).symm.trans hf
      refine lv_iload hx hb dX2_worth_31 (lv_at hl 0 rfl) ?_
      refine lv_bipush (v := (-12 : Int32)) hx hb dX2_worth_33 (by decide) ?_
      refine lv_icmp_ne (tgt := 66) hx hb dX2_worth_35 (by decide) (fun hc => ?_) (fun hc => ?_)
      · have hf := (if_neg hc).symm.trans hf
        refine lv_iload hx hb dX2_worth_66 (lv_at hl 0 rfl) ?_
        refine lv_if_ge (tgt := 78) hx hb dX2_worth_68 (by decide) (fun hc => ?_) (fun hc => ?_)
        · have hf := (if_pos hc).symm.trans hf
          exact q_X2_worth_78 C K a_laws a_laws_codes a_laws_lengths a_laws_letters a_laws_stack a_ar ar_n laws_size laws_holds laws_letters ar r0 o_laws_stack k5 hk5 laws_stack v2 v3 v4 v5_2 hf hw (lv_sub hl [1, 2, 3, 4, 5, 0] rfl)
        · have hf := (if_neg hc).symm.trans hf
          refine lv_iload hx hb dX2_worth_71 (lv_at hl 0 rfl) ?_
          refine lv_bipush (v := (-14 : Int32)) hx hb dX2_worth_73 (by decide) ?_
          refine lv_icmp_gt (tgt := 110) hx hb dX2_worth_75 (by decide) (fun hc => ?_) (fun hc => ?_)
          · have hf := (if_pos hc).symm.trans hf
            refine lv_iload hx hb dX2_worth_110 (lv_at hl 0 rfl) ?_
            refine lv_bipush (v := (-11 : Int32)) hx hb dX2_worth_112 (by decide) ?_
            refine lv_icmp_ne (tgt := 138) hx hb dX2_worth_114 (by decide) (fun hc => ?_) (fun hc => ?_)
            · have hf := (if_neg hc).symm.trans hf
              exact q_X2_worth_138 C K a_laws a_laws_codes a_laws_lengths a_laws_letters a_laws_stack a_ar ar_n laws_size laws_holds laws_letters ar r0 o_laws_stack k5 hk5 laws_stack v2 v3 v4 v5_2 hf hw (lv_sub hl [1, 2, 3, 4, 5, 0] rfl)
            · have hf := (if_pos hc).symm.trans hf
              refine lv_iload_n hx hb dX2_worth_117 rfl (lv_at hl 4 rfl) ?_
              refine lv_if_lt (tgt := 138) hx hb dX2_worth_118 (by decide) (fun hc => ?_) (fun hc => ?_)
              · have hf := (if_pos hc).symm.trans hf
                exact q_X2_worth_138 C K a_laws a_laws_codes a_laws_lengths a_laws_letters a_laws_stack a_ar ar_n laws_size laws_holds laws_letters ar r0 o_laws_stack k5 hk5 laws_stack v2 v3 v4 v5_2 hf hw (lv_sub hl [1, 2, 3, 4, 5, 0] rfl)
              · have hf := (if_neg hc).symm.trans hf
                refine lv_aload_n hx hb dX2_worth_121 rfl (lv_at hl 1 rfl) ?_
                refine va_get (ci := 2) (v := .ref a_laws_stack) (C := RX2) (T := TX2) (N := 6) hx hb hts in_X2_worth_X2 hown hK hw.1 0 rfl rfl 5 (by decide) (hts _ lk_X2_worth_0) (fun _ h9 => h9) rfl dX2_worth_122 ?_
                refine lv_iload_n hx hb dX2_worth_125 rfl (lv_at hl 4 rfl) ?_
                refine lv_iconst (v := (1 : Int32)) hx hb dX2_worth_126 (by decide) ?_
                refine lv_aload_n hx hb dX2_worth_127 rfl (lv_at hl 1 rfl) ?_
                refine va_get (ci := 2) (v := .ref a_laws_stack) (C := RX2) (T := TX2) (N := 6) hx hb hts in_X2_worth_X2 hown hK hw.1 0 rfl rfl 5 (by decide) (hts _ lk_X2_worth_0) (fun _ h9 => h9) rfl dX2_worth_128 ?_
                refine lv_iload_n hx hb dX2_worth_131 rfl (lv_at hl 4 rfl) ?_
                obtain ⟨hc_3, hf⟩ := gd_some hf
                refine va_iald hx hb hK hw.1 2 0 rfl rfl (inB_in hc_3) dX2_worth_132 ?_
                refine lv_isub hx hb dX2_worth_133 ?_
                obtain ⟨hc_4, hf⟩ := gd_some hf
                obtain ⟨laws_stack_5, e_laws_stack_5, hf⟩ := bnd_some hf
                refine va_iast hx hb hK hw.1 hw.2.1 hw.2.2 2 0 rfl rfl (inB_in hc_4) dX2_worth_134 (fun H locs hP hD hS => ?_)
                have hw : Wo D A s [(oX2 a_laws (.int laws_size) (.int laws_holds) (.ref a_laws_codes) (.ref a_laws_lengths) (.ref a_laws_letters) (.ref a_laws_stack)), (a_laws_letters, .inl (cI, 6, .inl laws_letters)), (a_laws_stack, .inl (cI, 241, .inl laws_stack_5)), (a_ar, .inl (cI, ar_n, .inl ar))] H locs := by rw [e_laws_stack_5]; exact ⟨hP, hD, hS⟩
                refine lv_goto (tgt := 173) hx hb dX2_worth_135 (by decide) ?_
                exact q_X2_worth_173 C K a_laws a_laws_codes a_laws_lengths a_laws_letters a_laws_stack a_ar ar_n laws_size laws_holds laws_letters ar r0 o_laws_stack k5 hk5 laws_stack_5 v2 v3 v4 hf hw (lv_sub hl [1, 2, 3, 4, 5] rfl)
          · have hf := (if_neg hc).symm.trans hf
            exact q_X2_worth_78 C K a_laws a_laws_codes a_laws_lengths a_laws_letters a_laws_stack a_ar ar_n laws_size laws_holds laws_letters ar r0 o_laws_stack k5 hk5 laws_stack v2 v3 v4 v5_2 hf hw (lv_sub hl [1, 2, 3, 4, 5, 0] rfl)
      · have hf := (if_pos hc).symm.trans hf
        refine lv_iconst (v := (-1 : Int32)) hx hb dX2_worth_38 (by decide) ?_
        refine lv_istore_n (lv' := [(3, .int (-1 : Int32)), (5, .int v5_2), (0, .ref a_laws), (1, .ref a_ar), (2, .int v2), (4, .int v4)]) hx hb dX2_worth_39 rfl hl (by decide) rfl (fun ls hl => ?_)
        refine lv_aload_n hx hb dX2_worth_40 rfl (lv_at hl 2 rfl) ?_
        refine va_get (ci := 2) (v := .ref a_laws_stack) (C := RX2) (T := TX2) (N := 6) hx hb hts in_X2_worth_X2 hown hK hw.1 0 rfl rfl 5 (by decide) (hts _ lk_X2_worth_0) (fun _ h9 => h9) rfl dX2_worth_41 ?_
        refine lv_iconst (v := (0 : Int32)) hx hb dX2_worth_44 (by decide) ?_
        obtain ⟨hc_6, hf⟩ := gd_some hf
        refine va_iald hx hb hK hw.1 2 0 rfl rfl (inB_in hc_6) dX2_worth_45 ?_
        refine lv_if_ne (tgt := 59) hx hb dX2_worth_46 (by decide) (fun hc => ?_) (fun hc => ?_)
        · have hf := (if_neg hc).symm.trans hf
          refine lv_iload hx hb dX2_worth_59 (lv_at hl 5 rfl) ?_
          exact q_X2_worth_61 C K a_laws a_laws_codes a_laws_lengths a_laws_letters a_laws_stack a_ar ar_n laws_size laws_holds laws_letters ar r0 o_laws_stack k5 hk5 laws_stack v2 (-1 : Int32) v4 hf hw (lv_sub hl [2, 3, 4, 0] rfl)
        · have hf := (if_pos hc).symm.trans hf
          refine lv_aload_n hx hb dX2_worth_49 rfl (lv_at hl 3 rfl) ?_
          refine lv_iload_n hx hb dX2_worth_50 rfl (lv_at hl 4 rfl) ?_
          refine lv_iload hx hb dX2_worth_51 (lv_at hl 5 rfl) ?_
          obtain ⟨r_7, hg_8, hf⟩ := ob1_some hf
          refine cl_SiA (As := [.ref a_ar, .int v2, .int v4]) (rest := []) C K hw (k_X2_endOfClause a_ar ar_n ar r_7 v2 v4 hg_8) [3] rfl (by decide) rfl rfl ⟨callB_of 3 hts (fun w h => gX2_worth_X2_endOfClause w (List.mem_append_right _ h)) rfl rfl rfl (hts _ lk_X2_worth_1) (hts _ lk_X2_worth_2) (by decide +kernel) ⟨Nat.le_of_ble_eq_true rfl, Nat.le_of_ble_eq_true rfl⟩, hts _ lk_X2_worth_3⟩ rfl hl rfl (Nat.le_of_ble_eq_true rfl) dX2_worth_53 ⟨Nat.zero_le _, Nat.zero_le _⟩ (fun H locs hw => ?_)
          have hw : Wo D A s [(oX2 a_laws (.int laws_size) (.int laws_holds) (.ref a_laws_codes) (.ref a_laws_lengths) (.ref a_laws_letters) (.ref a_laws_stack)), (a_laws_letters, .inl (cI, 6, .inl laws_letters)), (a_laws_stack, .inl (cI, 241, .inl laws_stack)), (a_ar, .inl (cI, ar_n, .inl ar))] H locs := hw
          refine lv_goto (tgt := 61) hx hb dX2_worth_56 (by decide) ?_
          exact q_X2_worth_61 C K a_laws a_laws_codes a_laws_lengths a_laws_letters a_laws_stack a_ar ar_n laws_size laws_holds laws_letters ar r0 o_laws_stack k5 hk5 laws_stack v2 (-1 : Int32) r_7 hf hw (lv_sub hl [2, 3, 4, 0] rfl)
    · have hf := (if_pos hc).symm.trans hf
      refine lv_aload_n hx hb dX2_worth_24 rfl (lv_at hl 1 rfl) ?_
      refine va_get (ci := 2) (v := .ref a_laws_stack) (C := RX2) (T := TX2) (N := 6) hx hb hts in_X2_worth_X2 hown hK hw.1 0 rfl rfl 5 (by decide) (hts _ lk_X2_worth_0) (fun _ h9 => h9) rfl dX2_worth_25 ?_
      refine lv_iconst (v := (0 : Int32)) hx hb dX2_worth_28 (by decide) ?_
      obtain ⟨hc_9, hf⟩ := gd_some hf
      refine va_iald hx hb hK hw.1 2 0 rfl rfl (inB_in hc_9) dX2_worth_29 ?_
      clear hk5; cases hf
      exact retI C hw dX2_worth_30 rfl
theorem qf_X2_worth_5 {p : Program} {l : Launch} {e : Env} {s : State} {m : MethodId} {args : Array Value} {below : List Frame} {meth : Method} {c : Code} {sx : List sx_T} {D : va_G} {cI cZ cO : ClassId} {A : Nat → Prop} (C : Cx p s m args meth c RX2 wsX2_worth cX2_worth 6 (some .int)) (K : Kx sx D (tyL cI cZ cO) A s) (a_laws : Nat) (a_laws_codes : Nat) (a_laws_lengths : Nat) (a_laws_letters : Nat) (a_laws_stack : Nat) (a_ar : Nat) (ar_n : Nat) (laws_size : Int32) (laws_holds : Int32) (laws_letters : Nat → Int32) (ar : Nat → Int32) (r0 : Int32) (o_laws_stack : Nat → Int32)    (n : Nat) : ∀ (laws_stack : Nat → Int32) (v2 : Int32) (v3 : Int32) (v4 : Int32) (H : Heap) (locs : List Loc) (ls : Array Slot), f_X2_worth_5 laws_letters ar ar_n  n laws_stack v2 v3 v4 = some (r0, o_laws_stack) → Wo D A s [(oX2 a_laws (.int laws_size) (.int laws_holds) (.ref a_laws_codes) (.ref a_laws_lengths) (.ref a_laws_letters) (.ref a_laws_stack)), (a_laws_letters, .inl (cI, 6, .inl laws_letters)), (a_laws_stack, .inl (cI, 241, .inl laws_stack)), (a_ar, .inl (cI, ar_n, .inl ar))] H locs → lv_has ls 6 [(0, .ref a_laws), (1, .ref a_ar), (2, .int v2), (3, .int v3), (4, .int v4)] → W p l e rm_X2_worth s m args below meth c H locs 0 0 (MQ below (QcI D A r0 [(oX2 a_laws (.int laws_size) (.int laws_holds) (.ref a_laws_codes) (.ref a_laws_lengths) (.ref a_laws_letters) (.ref a_laws_stack)), (a_laws_letters, .inl (cI, 6, .inl laws_letters)), (a_laws_stack, .inl (cI, 241, .inl o_laws_stack)), (a_ar, .inl (cI, ar_n, .inl ar))]) args s 0 0 A) (F0 m 5 ls []) := by
  induction n with
  | zero =>
    intro laws_stack v2 v3 v4 H locs ls hf
    have h9 : (none : Option (Int32 × (Nat → Int32))) = some (r0, o_laws_stack) := hf
    cases h9
  | succ n ih =>
    intro laws_stack v2 v3 v4 H locs ls hf hw hl
    exact q_X2_worth_5 C K a_laws a_laws_codes a_laws_lengths a_laws_letters a_laws_stack a_ar ar_n laws_size laws_holds laws_letters ar r0 o_laws_stack  (f_X2_worth_5 laws_letters ar ar_n  n) ih laws_stack v2 v3 v4 hf hw hl
set_option maxHeartbeats 4000000 in
set_option maxRecDepth 100000 in
theorem q_X2_worth_0 {p : Program} {l : Launch} {e : Env} {s : State} {m : MethodId} {args : Array Value} {below : List Frame} {meth : Method} {c : Code} {sx : List sx_T} {D : va_G} {cI cZ cO : ClassId} {A : Nat → Prop} (C : Cx p s m args meth c RX2 wsX2_worth cX2_worth 6 (some .int)) (K : Kx sx D (tyL cI cZ cO) A s) (a_laws : Nat) (a_laws_codes : Nat) (a_laws_lengths : Nat) (a_laws_letters : Nat) (a_laws_stack : Nat) (a_ar : Nat) (ar_n : Nat) (laws_size : Int32) (laws_holds : Int32) (laws_letters : Nat → Int32) (ar : Nat → Int32) (r0 : Int32) (o_laws_stack : Nat → Int32)    (laws_stack : Nat → Int32) (v2 : Int32) {H : Heap} {locs : List Loc} {ls : Array Slot} (hf : b_X2_worth_0 laws_letters ar ar_n  laws_stack v2 = some (r0, o_laws_stack)) (hw : Wo D A s [(oX2 a_laws (.int laws_size) (.int laws_holds) (.ref a_laws_codes) (.ref a_laws_lengths) (.ref a_laws_letters) (.ref a_laws_stack)), (a_laws_letters, .inl (cI, 6, .inl laws_letters)), (a_laws_stack, .inl (cI, 241, .inl laws_stack)), (a_ar, .inl (cI, ar_n, .inl ar))] H locs) (hl : lv_has ls 6 [(0, .ref a_laws), (1, .ref a_ar), (2, .int v2)]) : W p l e rm_X2_worth s m args below meth c H locs 0 0 (MQ below (QcI D A r0 [(oX2 a_laws (.int laws_size) (.int laws_holds) (.ref a_laws_codes) (.ref a_laws_lengths) (.ref a_laws_letters) (.ref a_laws_stack)), (a_laws_letters, .inl (cI, 6, .inl laws_letters)), (a_laws_stack, .inl (cI, 241, .inl o_laws_stack)), (a_ar, .inl (cI, ar_n, .inl ar))]) args s 0 0 A) (F0 m 0 ls []) := by
  obtain ⟨hx, hb, hml, hown, hts, hr, hlk⟩ := id C
  obtain ⟨hK, hX, hA⟩ := id K
  unfold b_X2_worth_0 at hf
  refine lv_iconst (v := (-1 : Int32)) hx hb dX2_worth_0 (by decide) ?_
  refine lv_istore_n (lv' := [(3, .int (-1 : Int32)), (0, .ref a_laws), (1, .ref a_ar), (2, .int v2)]) hx hb dX2_worth_1 rfl hl (by decide) rfl (fun ls hl => ?_)
  refine lv_iconst (v := (0 : Int32)) hx hb dX2_worth_2 (by decide) ?_
  refine lv_istore (lv' := [(4, .int (0 : Int32)), (3, .int (-1 : Int32)), (0, .ref a_laws), (1, .ref a_ar), (2, .int v2)]) hx hb dX2_worth_3 hl (by decide) rfl (fun ls hl => ?_)
  exact qf_X2_worth_5 C K a_laws a_laws_codes a_laws_lengths a_laws_letters a_laws_stack a_ar ar_n laws_size laws_holds laws_letters ar r0 o_laws_stack  fu laws_stack v2 (-1 : Int32) (0 : Int32) _ _ _ hf hw (lv_sub hl [2, 3, 4, 1, 0] rfl)
set_option maxHeartbeats 4000000 in
set_option maxRecDepth 100000 in
theorem k_X2_worth {l : Launch} {sx : List sx_T} {D : va_G} {cI cZ cO : ClassId} (a_laws : Nat) (a_laws_codes : Nat) (a_laws_lengths : Nat) (a_laws_letters : Nat) (a_laws_stack : Nat) (a_ar : Nat) (ar_n : Nat) (laws_size : Int32) (laws_holds : Int32) (laws_letters : Nat → Int32) (ar : Nat → Int32) (r0 : Int32) (o_laws_stack : Nat → Int32) (laws_stack : Nat → Int32) (p2 : Int32) (hF : f_X2_worth laws_letters ar ar_n laws_stack p2 = some (r0, o_laws_stack)) : CtI l yX2_worth wsX2_worth rm_X2_worth sx D (tyL cI cZ cO) [.ref a_laws, .ref a_ar, .int p2] [(oX2 a_laws (.int laws_size) (.int laws_holds) (.ref a_laws_codes) (.ref a_laws_lengths) (.ref a_laws_letters) (.ref a_laws_stack)), (a_laws_letters, .inl (cI, 6, .inl laws_letters)), (a_laws_stack, .inl (cI, 241, .inl laws_stack)), (a_ar, .inl (cI, ar_n, .inl ar))] r0 [(oX2 a_laws (.int laws_size) (.int laws_holds) (.ref a_laws_codes) (.ref a_laws_lengths) (.ref a_laws_letters) (.ref a_laws_stack)), (a_laws_letters, .inl (cI, 6, .inl laws_letters)), (a_laws_stack, .inl (cI, 241, .inl o_laws_stack)), (a_ar, .inl (cI, ar_n, .inl ar))] := by
  refine ctI_of (cc := cX2_worth) (ret := (some .int)) (maxL := 6) (by decide) rfl (Nat.le_of_ble_eq_true rfl) ?_
  intro p e s m below meth c A ls C K hw hl
  exact q_X2_worth_0 C K a_laws a_laws_codes a_laws_lengths a_laws_letters a_laws_stack a_ar ar_n laws_size laws_holds laws_letters ar r0 o_laws_stack laws_stack p2 hF hw (lv_sub hl [0, 1, 2] rfl)
abbrev rm_X2_riseBy : Room := { frames := 2, cells := 0, slots := 0, locals := 51 }
theorem in_X2_riseBy_X2 : ∀ w ∈ u_ws RX2 TX2 6, w ∈ wsX2_riseBy := fun w h => List.mem_cons_of_mem _ (bi_wsX20 w h)
theorem lk_X2_riseBy_0 : Cond.fieldLink RX2 9 "GloveHouses$Laws" "holds" "I" ∈ wsX2_riseBy := List.mem_cons_of_mem _ (bi_wsL_law0_r5 _ (List.mem_of_getElem? (i := 0) rfl))
theorem lk_X2_riseBy_1 : Cond.fieldLink RX2 28 "GloveHouses$Laws" "letters" "[I" ∈ wsX2_riseBy := List.mem_cons_of_mem _ (bi_wsL_law0_r5 _ (List.mem_of_getElem? (i := 5) rfl))
theorem lk_X2_riseBy_2 : Cond.fieldLink RX2 17 "GloveHouses$Laws" "codes" "[[I" ∈ wsX2_riseBy := List.mem_cons_of_mem _ (bi_wsL_law0_r5 _ (List.mem_of_getElem? (i := 2) rfl))
theorem lk_X2_riseBy_3 : Cond.fieldLink RX2 20 "GloveHouses$Laws" "lengths" "[I" ∈ wsX2_riseBy := List.mem_cons_of_mem _ (bi_wsL_law0_r5 _ (List.mem_of_getElem? (i := 3) rfl))
theorem lk_X2_riseBy_4 : Cond.methodLink RX2 51 Lib.Math.min.name ∈ wsX2_riseBy := List.mem_cons_of_mem _ (bi_wsL_law0_r30 _ (List.mem_of_getElem? (i := 11) rfl))
theorem lk_X2_riseBy_5 : Cond.static Lib.Math.min.name ∈ wsX2_riseBy := List.mem_cons_of_mem _ (bi_wsL_law0_r27 _ (List.mem_of_getElem? (i := 18) rfl))
theorem lk_X2_riseBy_6 : Cond.initialized "java/lang/Math" ∈ wsX2_riseBy := List.mem_cons_of_mem _ (bi_wsL_law0_r27 _ (List.mem_of_getElem? (i := 19) rfl))
theorem lk_X2_riseBy_7 : Cond.code Lib.Math.min.name Lib.Math.min.code 2 (some .int) ∈ wsX2_riseBy := List.mem_cons_of_mem _ (bi_wsL_law0_r27 _ (List.mem_of_getElem? (i := 20) rfl))
theorem lk_X2_riseBy_8 : Cond.methodLink RX2 57 Lib.Math.max.name ∈ wsX2_riseBy := List.mem_cons_of_mem _ (bi_wsL_law0_r30 _ (List.mem_of_getElem? (i := 12) rfl))
theorem lk_X2_riseBy_9 : Cond.static Lib.Math.max.name ∈ wsX2_riseBy := List.mem_cons_of_mem _ (bi_wsL_law0_r27 _ (List.mem_of_getElem? (i := 22) rfl))
theorem lk_X2_riseBy_10 : Cond.code Lib.Math.max.name Lib.Math.max.code 2 (some .int) ∈ wsX2_riseBy := List.mem_cons_of_mem _ (bi_wsL_law0_r27 _ (List.mem_of_getElem? (i := 23) rfl))
set_option maxHeartbeats 4000000 in
set_option maxRecDepth 100000 in
theorem q_X2_riseBy_99 {p : Program} {l : Launch} {e : Env} {s : State} {m : MethodId} {args : Array Value} {below : List Frame} {meth : Method} {c : Code} {sx : List sx_T} {D : va_G} {cI cZ cO : ClassId} {A : Nat → Prop} (C : Cx p s m args meth c RX2 wsX2_riseBy cX2_riseBy 8 (some .int)) (K : Kx sx D (tyL cI cZ cO) A s) (a_laws : Nat) (a_laws_codes : Nat) (a_laws_lengths : Nat) (a_laws_letters : Nat) (a_laws_stack : Nat) (rw : Nat → Nat) (laws_size : Int32) (laws_holds : Int32) (laws_lengths : Nat → Int32) (laws_c0 : Nat → Int32) (laws_c1 : Nat → Int32) (laws_c2 : Nat → Int32) (laws_c3 : Nat → Int32) (r0 : Int32) (o_laws_letters : Nat → Int32) (o_laws_stack : Nat → Int32)    (laws_letters : Nat → Int32) (laws_stack : Nat → Int32) (v7 : Int32) {H : Heap} {locs : List Loc} {ls : Array Slot} (hf : b_X2_riseBy_99 laws_holds laws_lengths laws_c0 laws_c1 laws_c2 laws_c3  laws_letters laws_stack v7 = some (r0, o_laws_letters, o_laws_stack)) (hw : Wo D A s [(oX2 a_laws (.int laws_size) (.int laws_holds) (.ref a_laws_codes) (.ref a_laws_lengths) (.ref a_laws_letters) (.ref a_laws_stack)), (a_laws_codes, .inl (cO, 4, .inr (.inr (.inr (.inr (rwF rw)))))), (a_laws_lengths, .inl (cI, 4, .inl laws_lengths)), (a_laws_letters, .inl (cI, 6, .inl laws_letters)), (a_laws_stack, .inl (cI, 241, .inl laws_stack)), ((rw 0), .inl (cI, 241, .inl laws_c0)), ((rw 1), .inl (cI, 241, .inl laws_c1)), ((rw 2), .inl (cI, 241, .inl laws_c2)), ((rw 3), .inl (cI, 241, .inl laws_c3))] H locs) (hl : lv_has ls 8 [(7, .int v7)]) : W p l e rm_X2_riseBy s m args below meth c H locs 0 0 (MQ below (QcI D A r0 [(oX2 a_laws (.int laws_size) (.int laws_holds) (.ref a_laws_codes) (.ref a_laws_lengths) (.ref a_laws_letters) (.ref a_laws_stack)), (a_laws_codes, .inl (cO, 4, .inr (.inr (.inr (.inr (rwF rw)))))), (a_laws_lengths, .inl (cI, 4, .inl laws_lengths)), (a_laws_letters, .inl (cI, 6, .inl o_laws_letters)), (a_laws_stack, .inl (cI, 241, .inl o_laws_stack)), ((rw 0), .inl (cI, 241, .inl laws_c0)), ((rw 1), .inl (cI, 241, .inl laws_c1)), ((rw 2), .inl (cI, 241, .inl laws_c2)), ((rw 3), .inl (cI, 241, .inl laws_c3))]) args s 0 0 A) (F0 m 99 ls []) := by
  obtain ⟨hx, hb, hml, hown, hts, hr, hlk⟩ := id C
  obtain ⟨hK, hX, hA⟩ := id K
  unfold b_X2_riseBy_99 at hf
  refine lv_bipush (v := (-9 : Int32)) hx hb dX2_riseBy_99 (by decide) ?_
  refine lv_bipush (v := (9 : Int32)) hx hb dX2_riseBy_101 (by decide) ?_
  refine lv_iload hx hb dX2_riseBy_103 (lv_at hl 0 rfl) ?_
  refine va_mmin hx hb (hml.trans hl.1.symm) hown (hts _ lk_X2_riseBy_4) (hts _ lk_X2_riseBy_5) (hts _ lk_X2_riseBy_6) (hts _ lk_X2_riseBy_7) (Nat.le_of_ble_eq_true rfl) (Nat.le_of_ble_eq_true rfl) (Nat.zero_le _) (Nat.zero_le _) dX2_riseBy_105 ?_
  obtain ⟨n_1, e_n_1, hf⟩ := bnd_some hf
  refine lv_nmi e_n_1 ?_
  refine va_mmax hx hb (hml.trans hl.1.symm) hown (hts _ lk_X2_riseBy_8) (hts _ lk_X2_riseBy_9) (hts _ lk_X2_riseBy_6) (hts _ lk_X2_riseBy_10) (Nat.le_of_ble_eq_true rfl) (Nat.le_of_ble_eq_true rfl) (Nat.zero_le _) (Nat.zero_le _) dX2_riseBy_108 ?_
  obtain ⟨n_2, e_n_2, hf⟩ := bnd_some hf
  refine lv_nmi e_n_2 ?_
  cases hf
  exact retI C hw dX2_riseBy_111 rfl
set_option maxHeartbeats 4000000 in
set_option maxRecDepth 100000 in
theorem q_X2_riseBy_0 {p : Program} {l : Launch} {e : Env} {s : State} {m : MethodId} {args : Array Value} {below : List Frame} {meth : Method} {c : Code} {sx : List sx_T} {D : va_G} {cI cZ cO : ClassId} {A : Nat → Prop} (C : Cx p s m args meth c RX2 wsX2_riseBy cX2_riseBy 8 (some .int)) (K : Kx sx D (tyL cI cZ cO) A s) (a_laws : Nat) (a_laws_codes : Nat) (a_laws_lengths : Nat) (a_laws_letters : Nat) (a_laws_stack : Nat) (rw : Nat → Nat) (laws_size : Int32) (laws_holds : Int32) (laws_lengths : Nat → Int32) (laws_c0 : Nat → Int32) (laws_c1 : Nat → Int32) (laws_c2 : Nat → Int32) (laws_c3 : Nat → Int32) (r0 : Int32) (o_laws_letters : Nat → Int32) (o_laws_stack : Nat → Int32)    (laws_letters : Nat → Int32) (laws_stack : Nat → Int32) (v1 : Int32) (v2 : Int32) (v3 : Int32) (v4 : Int32) (v5 : Int32) (v6 : Int32) {H : Heap} {locs : List Loc} {ls : Array Slot} (hf : b_X2_riseBy_0 laws_holds laws_lengths laws_c0 laws_c1 laws_c2 laws_c3  laws_letters laws_stack v1 v2 v3 v4 v5 v6 = some (r0, o_laws_letters, o_laws_stack)) (hw : Wo D A s [(oX2 a_laws (.int laws_size) (.int laws_holds) (.ref a_laws_codes) (.ref a_laws_lengths) (.ref a_laws_letters) (.ref a_laws_stack)), (a_laws_codes, .inl (cO, 4, .inr (.inr (.inr (.inr (rwF rw)))))), (a_laws_lengths, .inl (cI, 4, .inl laws_lengths)), (a_laws_letters, .inl (cI, 6, .inl laws_letters)), (a_laws_stack, .inl (cI, 241, .inl laws_stack)), ((rw 0), .inl (cI, 241, .inl laws_c0)), ((rw 1), .inl (cI, 241, .inl laws_c1)), ((rw 2), .inl (cI, 241, .inl laws_c2)), ((rw 3), .inl (cI, 241, .inl laws_c3))] H locs) (hl : lv_has ls 8 [(0, .ref a_laws), (1, .int v1), (2, .int v2), (3, .int v3), (4, .int v4), (5, .int v5), (6, .int v6)]) : W p l e rm_X2_riseBy s m args below meth c H locs 0 0 (MQ below (QcI D A r0 [(oX2 a_laws (.int laws_size) (.int laws_holds) (.ref a_laws_codes) (.ref a_laws_lengths) (.ref a_laws_letters) (.ref a_laws_stack)), (a_laws_codes, .inl (cO, 4, .inr (.inr (.inr (.inr (rwF rw)))))), (a_laws_lengths, .inl (cI, 4, .inl laws_lengths)), (a_laws_letters, .inl (cI, 6, .inl o_laws_letters)), (a_laws_stack, .inl (cI, 241, .inl o_laws_stack)), ((rw 0), .inl (cI, 241, .inl laws_c0)), ((rw 1), .inl (cI, 241, .inl laws_c1)), ((rw 2), .inl (cI, 241, .inl laws_c2)), ((rw 3), .inl (cI, 241, .inl laws_c3))]) args s 0 0 A) (F0 m 0 ls []) := by
  obtain ⟨hx, hb, hml, hown, hts, hr, hlk⟩ := id C
  obtain ⟨hK, hX, hA⟩ := id K
  unfold b_X2_riseBy_0 at hf
  refine lv_aload_n hx hb dX2_riseBy_0 rfl (lv_at hl 0 rfl) ?_
  refine va_get (ci := 2) (v := .int laws_holds) (C := RX2) (T := TX2) (N := 6) hx hb hts in_X2_riseBy_X2 hown hK hw.1 0 rfl rfl 1 (by decide) (hts _ lk_X2_riseBy_0) (fun _ h9 => h9) rfl dX2_riseBy_1 ?_
  refine lv_iconst (v := (-1 : Int32)) hx hb dX2_riseBy_4 (by decide) ?_
  refine lv_icmp_ne (tgt := 30) hx hb dX2_riseBy_5 (by decide) (fun hc => ?_) (fun hc => ?_)
  · have hf := (if_neg hc).symm.trans hf
    refine lv_aload_n hx hb dX2_riseBy_30 rfl (lv_at hl 0 rfl) ?_
    refine va_get (ci := 2) (v := .ref a_laws_letters) (C := RX2) (T := TX2) (N := 6) hx hb hts in_X2_riseBy_X2 hown hK hw.1 0 rfl rfl 4 (by decide) (hts _ lk_X2_riseBy_1) (fun _ h9 => h9) rfl dX2_riseBy_31 ?_
    refine lv_iconst (v := (0 : Int32)) hx hb dX2_riseBy_34 (by decide) ?_
    refine lv_iload_n hx hb dX2_riseBy_35 rfl (lv_at hl 1 rfl) ?_
    obtain ⟨hc_1, hf⟩ := gd_some hf
    obtain ⟨laws_letters_2, e_laws_letters_2, hf⟩ := bnd_some hf
    refine va_iast hx hb hK hw.1 hw.2.1 hw.2.2 3 0 rfl rfl (inB_in hc_1) dX2_riseBy_36 (fun H locs hP hD hS => ?_)
    have hw : Wo D A s [(oX2 a_laws (.int laws_size) (.int laws_holds) (.ref a_laws_codes) (.ref a_laws_lengths) (.ref a_laws_letters) (.ref a_laws_stack)), (a_laws_codes, .inl (cO, 4, .inr (.inr (.inr (.inr (rwF rw)))))), (a_laws_lengths, .inl (cI, 4, .inl laws_lengths)), (a_laws_letters, .inl (cI, 6, .inl laws_letters_2)), (a_laws_stack, .inl (cI, 241, .inl laws_stack)), ((rw 0), .inl (cI, 241, .inl laws_c0)), ((rw 1), .inl (cI, 241, .inl laws_c1)), ((rw 2), .inl (cI, 241, .inl laws_c2)), ((rw 3), .inl (cI, 241, .inl laws_c3))] H locs := by rw [e_laws_letters_2]; exact ⟨hP, hD, hS⟩
    refine lv_aload_n hx hb dX2_riseBy_37 rfl (lv_at hl 0 rfl) ?_
    refine va_get (ci := 2) (v := .ref a_laws_letters) (C := RX2) (T := TX2) (N := 6) hx hb hts in_X2_riseBy_X2 hown hK hw.1 0 rfl rfl 4 (by decide) (hts _ lk_X2_riseBy_1) (fun _ h9 => h9) rfl dX2_riseBy_38 ?_
    refine lv_iconst (v := (1 : Int32)) hx hb dX2_riseBy_41 (by decide) ?_
    refine lv_iload_n hx hb dX2_riseBy_42 rfl (lv_at hl 2 rfl) ?_
    obtain ⟨hc_3, hf⟩ := gd_some hf
    obtain ⟨laws_letters_4, e_laws_letters_4, hf⟩ := bnd_some hf
    refine va_iast hx hb hK hw.1 hw.2.1 hw.2.2 3 0 rfl rfl (inB_in hc_3) dX2_riseBy_43 (fun H locs hP hD hS => ?_)
    have hw : Wo D A s [(oX2 a_laws (.int laws_size) (.int laws_holds) (.ref a_laws_codes) (.ref a_laws_lengths) (.ref a_laws_letters) (.ref a_laws_stack)), (a_laws_codes, .inl (cO, 4, .inr (.inr (.inr (.inr (rwF rw)))))), (a_laws_lengths, .inl (cI, 4, .inl laws_lengths)), (a_laws_letters, .inl (cI, 6, .inl laws_letters_4)), (a_laws_stack, .inl (cI, 241, .inl laws_stack)), ((rw 0), .inl (cI, 241, .inl laws_c0)), ((rw 1), .inl (cI, 241, .inl laws_c1)), ((rw 2), .inl (cI, 241, .inl laws_c2)), ((rw 3), .inl (cI, 241, .inl laws_c3))] H locs := by rw [e_laws_letters_4]; exact ⟨hP, hD, hS⟩
    refine lv_aload_n hx hb dX2_riseBy_44 rfl (lv_at hl 0 rfl) ?_
    refine va_get (ci := 2) (v := .ref a_laws_letters) (C := RX2) (T := TX2) (N := 6) hx hb hts in_X2_riseBy_X2 hown hK hw.1 0 rfl rfl 4 (by decide) (hts _ lk_X2_riseBy_1) (fun _ h9 => h9) rfl dX2_riseBy_45 ?_
    refine lv_iconst (v := (2 : Int32)) hx hb dX2_riseBy_48 (by decide) ?_
    refine lv_iload_n hx hb dX2_riseBy_49 rfl (lv_at hl 3 rfl) ?_
    obtain ⟨hc_5, hf⟩ := gd_some hf
    obtain ⟨laws_letters_6, e_laws_letters_6, hf⟩ := bnd_some hf
    refine va_iast hx hb hK hw.1 hw.2.1 hw.2.2 3 0 rfl rfl (inB_in hc_5) dX2_riseBy_50 (fun H locs hP hD hS => ?_)
    have hw : Wo D A s [(oX2 a_laws (.int laws_size) (.int laws_holds) (.ref a_laws_codes) (.ref a_laws_lengths) (.ref a_laws_letters) (.ref a_laws_stack)), (a_laws_codes, .inl (cO, 4, .inr (.inr (.inr (.inr (rwF rw)))))), (a_laws_lengths, .inl (cI, 4, .inl laws_lengths)), (a_laws_letters, .inl (cI, 6, .inl laws_letters_6)), (a_laws_stack, .inl (cI, 241, .inl laws_stack)), ((rw 0), .inl (cI, 241, .inl laws_c0)), ((rw 1), .inl (cI, 241, .inl laws_c1)), ((rw 2), .inl (cI, 241, .inl laws_c2)), ((rw 3), .inl (cI, 241, .inl laws_c3))] H locs := by rw [e_laws_letters_6]; exact ⟨hP, hD, hS⟩
    refine lv_aload_n hx hb dX2_riseBy_51 rfl (lv_at hl 0 rfl) ?_
    refine va_get (ci := 2) (v := .ref a_laws_letters) (C := RX2) (T := TX2) (N := 6) hx hb hts in_X2_riseBy_X2 hown hK hw.1 0 rfl rfl 4 (by decide) (hts _ lk_X2_riseBy_1) (fun _ h9 => h9) rfl dX2_riseBy_52 ?_
    refine lv_iconst (v := (3 : Int32)) hx hb dX2_riseBy_55 (by decide) ?_
    refine lv_iload hx hb dX2_riseBy_56 (lv_at hl 4 rfl) ?_
    obtain ⟨hc_7, hf⟩ := gd_some hf
    obtain ⟨laws_letters_8, e_laws_letters_8, hf⟩ := bnd_some hf
    refine va_iast hx hb hK hw.1 hw.2.1 hw.2.2 3 0 rfl rfl (inB_in hc_7) dX2_riseBy_58 (fun H locs hP hD hS => ?_)
    have hw : Wo D A s [(oX2 a_laws (.int laws_size) (.int laws_holds) (.ref a_laws_codes) (.ref a_laws_lengths) (.ref a_laws_letters) (.ref a_laws_stack)), (a_laws_codes, .inl (cO, 4, .inr (.inr (.inr (.inr (rwF rw)))))), (a_laws_lengths, .inl (cI, 4, .inl laws_lengths)), (a_laws_letters, .inl (cI, 6, .inl laws_letters_8)), (a_laws_stack, .inl (cI, 241, .inl laws_stack)), ((rw 0), .inl (cI, 241, .inl laws_c0)), ((rw 1), .inl (cI, 241, .inl laws_c1)), ((rw 2), .inl (cI, 241, .inl laws_c2)), ((rw 3), .inl (cI, 241, .inl laws_c3))] H locs := by rw [e_laws_letters_8]; exact ⟨hP, hD, hS⟩
    refine lv_aload_n hx hb dX2_riseBy_59 rfl (lv_at hl 0 rfl) ?_
    refine va_get (ci := 2) (v := .ref a_laws_letters) (C := RX2) (T := TX2) (N := 6) hx hb hts in_X2_riseBy_X2 hown hK hw.1 0 rfl rfl 4 (by decide) (hts _ lk_X2_riseBy_1) (fun _ h9 => h9) rfl dX2_riseBy_60 ?_
    refine lv_iconst (v := (4 : Int32)) hx hb dX2_riseBy_63 (by decide) ?_
    refine lv_iload hx hb dX2_riseBy_64 (lv_at hl 5 rfl) ?_
    obtain ⟨hc_9, hf⟩ := gd_some hf
    obtain ⟨laws_letters_10, e_laws_letters_10, hf⟩ := bnd_some hf
    refine va_iast hx hb hK hw.1 hw.2.1 hw.2.2 3 0 rfl rfl (inB_in hc_9) dX2_riseBy_66 (fun H locs hP hD hS => ?_)
    have hw : Wo D A s [(oX2 a_laws (.int laws_size) (.int laws_holds) (.ref a_laws_codes) (.ref a_laws_lengths) (.ref a_laws_letters) (.ref a_laws_stack)), (a_laws_codes, .inl (cO, 4, .inr (.inr (.inr (.inr (rwF rw)))))), (a_laws_lengths, .inl (cI, 4, .inl laws_lengths)), (a_laws_letters, .inl (cI, 6, .inl laws_letters_10)), (a_laws_stack, .inl (cI, 241, .inl laws_stack)), ((rw 0), .inl (cI, 241, .inl laws_c0)), ((rw 1), .inl (cI, 241, .inl laws_c1)), ((rw 2), .inl (cI, 241, .inl laws_c2)), ((rw 3), .inl (cI, 241, .inl laws_c3))] H locs := by rw [e_laws_letters_10]; exact ⟨hP, hD, hS⟩
    refine lv_aload_n hx hb dX2_riseBy_67 rfl (lv_at hl 0 rfl) ?_
    refine va_get (ci := 2) (v := .ref a_laws_letters) (C := RX2) (T := TX2) (N := 6) hx hb hts in_X2_riseBy_X2 hown hK hw.1 0 rfl rfl 4 (by decide) (hts _ lk_X2_riseBy_1) (fun _ h9 => h9) rfl dX2_riseBy_68 ?_
    refine lv_iconst (v := (5 : Int32)) hx hb dX2_riseBy_71 (by decide) ?_
    refine lv_iload hx hb dX2_riseBy_72 (lv_at hl 6 rfl) ?_
    obtain ⟨hc_11, hf⟩ := gd_some hf
    obtain ⟨laws_letters_12, e_laws_letters_12, hf⟩ := bnd_some hf
    refine va_iast hx hb hK hw.1 hw.2.1 hw.2.2 3 0 rfl rfl (inB_in hc_11) dX2_riseBy_74 (fun H locs hP hD hS => ?_)
    have hw : Wo D A s [(oX2 a_laws (.int laws_size) (.int laws_holds) (.ref a_laws_codes) (.ref a_laws_lengths) (.ref a_laws_letters) (.ref a_laws_stack)), (a_laws_codes, .inl (cO, 4, .inr (.inr (.inr (.inr (rwF rw)))))), (a_laws_lengths, .inl (cI, 4, .inl laws_lengths)), (a_laws_letters, .inl (cI, 6, .inl laws_letters_12)), (a_laws_stack, .inl (cI, 241, .inl laws_stack)), ((rw 0), .inl (cI, 241, .inl laws_c0)), ((rw 1), .inl (cI, 241, .inl laws_c1)), ((rw 2), .inl (cI, 241, .inl laws_c2)), ((rw 3), .inl (cI, 241, .inl laws_c3))] H locs := by rw [e_laws_letters_12]; exact ⟨hP, hD, hS⟩
    refine lv_aload_n hx hb dX2_riseBy_75 rfl (lv_at hl 0 rfl) ?_
    refine lv_aload_n hx hb dX2_riseBy_76 rfl (lv_at hl 0 rfl) ?_
    refine va_get (ci := 2) (v := .ref a_laws_codes) (C := RX2) (T := TX2) (N := 6) hx hb hts in_X2_riseBy_X2 hown hK hw.1 0 rfl rfl 2 (by decide) (hts _ lk_X2_riseBy_2) (fun _ h9 => h9) rfl dX2_riseBy_77 ?_
    refine lv_aload_n hx hb dX2_riseBy_80 rfl (lv_at hl 0 rfl) ?_
    refine va_get (ci := 2) (v := .int laws_holds) (C := RX2) (T := TX2) (N := 6) hx hb hts in_X2_riseBy_X2 hown hK hw.1 0 rfl rfl 1 (by decide) (hts _ lk_X2_riseBy_0) (fun _ h9 => h9) rfl dX2_riseBy_81 ?_
    obtain ⟨hc_13, hf⟩ := gd_some hf
    refine ald4 hx hb hK hw.1 1 rfl hc_13 dX2_riseBy_84 (fun h0 => ?_) (fun h0 h1 => ?_) (fun h0 h1 h2 => ?_) (fun h0 h1 h2 => ?_)
    · have hf := (if_pos h0).symm.trans hf
      refine lv_aload_n hx hb dX2_riseBy_85 rfl (lv_at hl 0 rfl) ?_
      refine va_get (ci := 2) (v := .ref a_laws_lengths) (C := RX2) (T := TX2) (N := 6) hx hb hts in_X2_riseBy_X2 hown hK hw.1 0 rfl rfl 3 (by decide) (hts _ lk_X2_riseBy_3) (fun _ h9 => h9) rfl dX2_riseBy_86 ?_
      refine lv_aload_n hx hb dX2_riseBy_89 rfl (lv_at hl 0 rfl) ?_
      refine va_get (ci := 2) (v := .int laws_holds) (C := RX2) (T := TX2) (N := 6) hx hb hts in_X2_riseBy_X2 hown hK hw.1 0 rfl rfl 1 (by decide) (hts _ lk_X2_riseBy_0) (fun _ h9 => h9) rfl dX2_riseBy_90 ?_
      obtain ⟨hc_14, hf⟩ := gd_some hf
      refine va_iald hx hb hK hw.1 2 0 rfl rfl (inB_in hc_14) dX2_riseBy_93 ?_
      obtain ⟨r_15, laws_stack_16, hg_17, hf⟩ := ob2_some hf
      refine cl_ViA (As := [.ref (rw 0), .int (laws_lengths laws_holds.toNatClampNeg)]) (rest := []) C K hw (k_X2_worth a_laws a_laws_codes a_laws_lengths a_laws_letters a_laws_stack (rw 0) 241 laws_size laws_holds laws_letters_12 laws_c0 r_15 laws_stack_16 laws_stack (laws_lengths laws_holds.toNatClampNeg) hg_17) [0, 3, 4, 5] rfl (by decide) rfl rfl (ci := 2) (j := 0) rfl rfl (cwV 2 hts gX2_riseBy_X2_worth rfl rfl rfl (by decide +kernel) ⟨Nat.le_of_ble_eq_true rfl, Nat.le_of_ble_eq_true rfl⟩) rfl hl rfl (Nat.le_of_ble_eq_true rfl) dX2_riseBy_94 ⟨Nat.zero_le _, Nat.zero_le _⟩ (fun H locs hw => ?_)
      have hw : Wo D A s [(oX2 a_laws (.int laws_size) (.int laws_holds) (.ref a_laws_codes) (.ref a_laws_lengths) (.ref a_laws_letters) (.ref a_laws_stack)), (a_laws_codes, .inl (cO, 4, .inr (.inr (.inr (.inr (rwF rw)))))), (a_laws_lengths, .inl (cI, 4, .inl laws_lengths)), (a_laws_letters, .inl (cI, 6, .inl laws_letters_12)), (a_laws_stack, .inl (cI, 241, .inl laws_stack_16)), ((rw 0), .inl (cI, 241, .inl laws_c0)), ((rw 1), .inl (cI, 241, .inl laws_c1)), ((rw 2), .inl (cI, 241, .inl laws_c2)), ((rw 3), .inl (cI, 241, .inl laws_c3))] H locs := hw
      refine lv_istore (lv' := [(7, .int r_15), (0, .ref a_laws), (1, .int v1), (2, .int v2), (3, .int v3), (4, .int v4), (5, .int v5), (6, .int v6)]) hx hb dX2_riseBy_97 hl (by decide) rfl (fun ls hl => ?_)
      exact q_X2_riseBy_99 C K a_laws a_laws_codes a_laws_lengths a_laws_letters a_laws_stack rw laws_size laws_holds laws_lengths laws_c0 laws_c1 laws_c2 laws_c3 r0 o_laws_letters o_laws_stack  laws_letters_12 laws_stack_16 r_15 hf hw (lv_sub hl [0] rfl)
    · have hf := (if_neg h0).symm.trans hf
      have hf := (if_pos h1).symm.trans hf
      refine lv_aload_n hx hb dX2_riseBy_85 rfl (lv_at hl 0 rfl) ?_
      refine va_get (ci := 2) (v := .ref a_laws_lengths) (C := RX2) (T := TX2) (N := 6) hx hb hts in_X2_riseBy_X2 hown hK hw.1 0 rfl rfl 3 (by decide) (hts _ lk_X2_riseBy_3) (fun _ h9 => h9) rfl dX2_riseBy_86 ?_
      refine lv_aload_n hx hb dX2_riseBy_89 rfl (lv_at hl 0 rfl) ?_
      refine va_get (ci := 2) (v := .int laws_holds) (C := RX2) (T := TX2) (N := 6) hx hb hts in_X2_riseBy_X2 hown hK hw.1 0 rfl rfl 1 (by decide) (hts _ lk_X2_riseBy_0) (fun _ h9 => h9) rfl dX2_riseBy_90 ?_
      obtain ⟨hc_18, hf⟩ := gd_some hf
      refine va_iald hx hb hK hw.1 2 0 rfl rfl (inB_in hc_18) dX2_riseBy_93 ?_
      obtain ⟨r_19, laws_stack_20, hg_21, hf⟩ := ob2_some hf
      refine cl_ViA (As := [.ref (rw 1), .int (laws_lengths laws_holds.toNatClampNeg)]) (rest := []) C K hw (k_X2_worth a_laws a_laws_codes a_laws_lengths a_laws_letters a_laws_stack (rw 1) 241 laws_size laws_holds laws_letters_12 laws_c1 r_19 laws_stack_20 laws_stack (laws_lengths laws_holds.toNatClampNeg) hg_21) [0, 3, 4, 6] rfl (by decide) rfl rfl (ci := 2) (j := 0) rfl rfl (cwV 2 hts gX2_riseBy_X2_worth rfl rfl rfl (by decide +kernel) ⟨Nat.le_of_ble_eq_true rfl, Nat.le_of_ble_eq_true rfl⟩) rfl hl rfl (Nat.le_of_ble_eq_true rfl) dX2_riseBy_94 ⟨Nat.zero_le _, Nat.zero_le _⟩ (fun H locs hw => ?_)
      have hw : Wo D A s [(oX2 a_laws (.int laws_size) (.int laws_holds) (.ref a_laws_codes) (.ref a_laws_lengths) (.ref a_laws_letters) (.ref a_laws_stack)), (a_laws_codes, .inl (cO, 4, .inr (.inr (.inr (.inr (rwF rw)))))), (a_laws_lengths, .inl (cI, 4, .inl laws_lengths)), (a_laws_letters, .inl (cI, 6, .inl laws_letters_12)), (a_laws_stack, .inl (cI, 241, .inl laws_stack_20)), ((rw 0), .inl (cI, 241, .inl laws_c0)), ((rw 1), .inl (cI, 241, .inl laws_c1)), ((rw 2), .inl (cI, 241, .inl laws_c2)), ((rw 3), .inl (cI, 241, .inl laws_c3))] H locs := hw
      refine lv_istore (lv' := [(7, .int r_19), (0, .ref a_laws), (1, .int v1), (2, .int v2), (3, .int v3), (4, .int v4), (5, .int v5), (6, .int v6)]) hx hb dX2_riseBy_97 hl (by decide) rfl (fun ls hl => ?_)
      exact q_X2_riseBy_99 C K a_laws a_laws_codes a_laws_lengths a_laws_letters a_laws_stack rw laws_size laws_holds laws_lengths laws_c0 laws_c1 laws_c2 laws_c3 r0 o_laws_letters o_laws_stack  laws_letters_12 laws_stack_20 r_19 hf hw (lv_sub hl [0] rfl)
    · have hf := (if_neg h0).symm.trans hf
      have hf := (if_neg h1).symm.trans hf
      have hf := (if_pos h2).symm.trans hf
      refine lv_aload_n hx hb dX2_riseBy_85 rfl (lv_at hl 0 rfl) ?_
      refine va_get (ci := 2) (v := .ref a_laws_lengths) (C := RX2) (T := TX2) (N := 6) hx hb hts in_X2_riseBy_X2 hown hK hw.1 0 rfl rfl 3 (by decide) (hts _ lk_X2_riseBy_3) (fun _ h9 => h9) rfl dX2_riseBy_86 ?_
      refine lv_aload_n hx hb dX2_riseBy_89 rfl (lv_at hl 0 rfl) ?_
      refine va_get (ci := 2) (v := .int laws_holds) (C := RX2) (T := TX2) (N := 6) hx hb hts in_X2_riseBy_X2 hown hK hw.1 0 rfl rfl 1 (by decide) (hts _ lk_X2_riseBy_0) (fun _ h9 => h9) rfl dX2_riseBy_90 ?_
      obtain ⟨hc_22, hf⟩ := gd_some hf
      refine va_iald hx hb hK hw.1 2 0 rfl rfl (inB_in hc_22) dX2_riseBy_93 ?_
      obtain ⟨r_23, laws_stack_24, hg_25, hf⟩ := ob2_some hf
      refine cl_ViA (As := [.ref (rw 2), .int (laws_lengths laws_holds.toNatClampNeg)]) (rest := []) C K hw (k_X2_worth a_laws a_laws_codes a_laws_lengths a_laws_letters a_laws_stack (rw 2) 241 laws_size laws_holds laws_letters_12 laws_c2 r_23 laws_stack_24 laws_stack (laws_lengths laws_holds.toNatClampNeg) hg_25) [0, 3, 4, 7] rfl (by decide) rfl rfl (ci := 2) (j := 0) rfl rfl (cwV 2 hts gX2_riseBy_X2_worth rfl rfl rfl (by decide +kernel) ⟨Nat.le_of_ble_eq_true rfl, Nat.le_of_ble_eq_true rfl⟩) rfl hl rfl (Nat.le_of_ble_eq_true rfl) dX2_riseBy_94 ⟨Nat.zero_le _, Nat.zero_le _⟩ (fun H locs hw => ?_)
      have hw : Wo D A s [(oX2 a_laws (.int laws_size) (.int laws_holds) (.ref a_laws_codes) (.ref a_laws_lengths) (.ref a_laws_letters) (.ref a_laws_stack)), (a_laws_codes, .inl (cO, 4, .inr (.inr (.inr (.inr (rwF rw)))))), (a_laws_lengths, .inl (cI, 4, .inl laws_lengths)), (a_laws_letters, .inl (cI, 6, .inl laws_letters_12)), (a_laws_stack, .inl (cI, 241, .inl laws_stack_24)), ((rw 0), .inl (cI, 241, .inl laws_c0)), ((rw 1), .inl (cI, 241, .inl laws_c1)), ((rw 2), .inl (cI, 241, .inl laws_c2)), ((rw 3), .inl (cI, 241, .inl laws_c3))] H locs := hw
      refine lv_istore (lv' := [(7, .int r_23), (0, .ref a_laws), (1, .int v1), (2, .int v2), (3, .int v3), (4, .int v4), (5, .int v5), (6, .int v6)]) hx hb dX2_riseBy_97 hl (by decide) rfl (fun ls hl => ?_)
      exact q_X2_riseBy_99 C K a_laws a_laws_codes a_laws_lengths a_laws_letters a_laws_stack rw laws_size laws_holds laws_lengths laws_c0 laws_c1 laws_c2 laws_c3 r0 o_laws_letters o_laws_stack  laws_letters_12 laws_stack_24 r_23 hf hw (lv_sub hl [0] rfl)
    · have hf := (if_neg h0).symm.trans hf
      have hf := (if_neg h1).symm.trans hf
      have hf := (if_neg h2).symm.trans hf
      refine lv_aload_n hx hb dX2_riseBy_85 rfl (lv_at hl 0 rfl) ?_
      refine va_get (ci := 2) (v := .ref a_laws_lengths) (C := RX2) (T := TX2) (N := 6) hx hb hts in_X2_riseBy_X2 hown hK hw.1 0 rfl rfl 3 (by decide) (hts _ lk_X2_riseBy_3) (fun _ h9 => h9) rfl dX2_riseBy_86 ?_
      refine lv_aload_n hx hb dX2_riseBy_89 rfl (lv_at hl 0 rfl) ?_
      refine va_get (ci := 2) (v := .int laws_holds) (C := RX2) (T := TX2) (N := 6) hx hb hts in_X2_riseBy_X2 hown hK hw.1 0 rfl rfl 1 (by decide) (hts _ lk_X2_riseBy_0) (fun _ h9 => h9) rfl dX2_riseBy_90 ?_
      obtain ⟨hc_26, hf⟩ := gd_some hf
      refine va_iald hx hb hK hw.1 2 0 rfl rfl (inB_in hc_26) dX2_riseBy_93 ?_
      obtain ⟨r_27, laws_stack_28, hg_29, hf⟩ := ob2_some hf
      refine cl_ViA (As := [.ref (rw 3), .int (laws_lengths laws_holds.toNatClampNeg)]) (rest := []) C K hw (k_X2_worth a_laws a_laws_codes a_laws_lengths a_laws_letters a_laws_stack (rw 3) 241 laws_size laws_holds laws_letters_12 laws_c3 r_27 laws_stack_28 laws_stack (laws_lengths laws_holds.toNatClampNeg) hg_29) [0, 3, 4, 8] rfl (by decide) rfl rfl (ci := 2) (j := 0) rfl rfl (cwV 2 hts gX2_riseBy_X2_worth rfl rfl rfl (by decide +kernel) ⟨Nat.le_of_ble_eq_true rfl, Nat.le_of_ble_eq_true rfl⟩) rfl hl rfl (Nat.le_of_ble_eq_true rfl) dX2_riseBy_94 ⟨Nat.zero_le _, Nat.zero_le _⟩ (fun H locs hw => ?_)
      have hw : Wo D A s [(oX2 a_laws (.int laws_size) (.int laws_holds) (.ref a_laws_codes) (.ref a_laws_lengths) (.ref a_laws_letters) (.ref a_laws_stack)), (a_laws_codes, .inl (cO, 4, .inr (.inr (.inr (.inr (rwF rw)))))), (a_laws_lengths, .inl (cI, 4, .inl laws_lengths)), (a_laws_letters, .inl (cI, 6, .inl laws_letters_12)), (a_laws_stack, .inl (cI, 241, .inl laws_stack_28)), ((rw 0), .inl (cI, 241, .inl laws_c0)), ((rw 1), .inl (cI, 241, .inl laws_c1)), ((rw 2), .inl (cI, 241, .inl laws_c2)), ((rw 3), .inl (cI, 241, .inl laws_c3))] H locs := hw
      refine lv_istore (lv' := [(7, .int r_27), (0, .ref a_laws), (1, .int v1), (2, .int v2), (3, .int v3), (4, .int v4), (5, .int v5), (6, .int v6)]) hx hb dX2_riseBy_97 hl (by decide) rfl (fun ls hl => ?_)
      exact q_X2_riseBy_99 C K a_laws a_laws_codes a_laws_lengths a_laws_letters a_laws_stack rw laws_size laws_holds laws_lengths laws_c0 laws_c1 laws_c2 laws_c3 r0 o_laws_letters o_laws_stack  laws_letters_12 laws_stack_28 r_27 hf hw (lv_sub hl [0] rfl)
  · have hf := (if_pos hc).symm.trans hf
    refine lv_iload_n hx hb dX2_riseBy_8 rfl (lv_at hl 1 rfl) ?_
    refine lv_iconst (v := (2 : Int32)) hx hb dX2_riseBy_9 (by decide) ?_
    refine lv_idiv hx hb dX2_riseBy_10 (by decide) ?_
    refine lv_iconst (v := (2 : Int32)) hx hb dX2_riseBy_11 (by decide) ?_
    refine lv_iload hx hb dX2_riseBy_12 (lv_at hl 4 rfl) ?_
    refine lv_imul hx hb dX2_riseBy_14 ?_
    refine lv_iadd hx hb dX2_riseBy_15 ?_
    refine lv_iload hx hb dX2_riseBy_16 (lv_at hl 5 rfl) ?_
    refine lv_iconst (v := (3 : Int32)) hx hb dX2_riseBy_18 (by decide) ?_
    refine lv_idiv hx hb dX2_riseBy_19 (by decide) ?_
    refine lv_isub hx hb dX2_riseBy_20 ?_
    obtain ⟨n_30, e_n_30, hf⟩ := bnd_some hf
    refine lv_nmi e_n_30 ?_
    refine lv_iload_n hx hb dX2_riseBy_21 rfl (lv_at hl 2 rfl) ?_
    refine lv_iconst (v := (4 : Int32)) hx hb dX2_riseBy_22 (by decide) ?_
    refine lv_idiv hx hb dX2_riseBy_23 (by decide) ?_
    refine lv_isub hx hb dX2_riseBy_24 ?_
    obtain ⟨v7_31, e_v7_31, hf⟩ := bnd_some hf
    refine lv_nmi e_v7_31 ?_
    refine lv_istore (lv' := [(7, .int v7_31), (0, .ref a_laws), (1, .int v1), (2, .int v2), (3, .int v3), (4, .int v4), (5, .int v5), (6, .int v6)]) hx hb dX2_riseBy_25 hl (by decide) rfl (fun ls hl => ?_)
    refine lv_goto (tgt := 99) hx hb dX2_riseBy_27 (by decide) ?_
    exact q_X2_riseBy_99 C K a_laws a_laws_codes a_laws_lengths a_laws_letters a_laws_stack rw laws_size laws_holds laws_lengths laws_c0 laws_c1 laws_c2 laws_c3 r0 o_laws_letters o_laws_stack  laws_letters laws_stack v7_31 hf hw (lv_sub hl [0] rfl)
set_option maxHeartbeats 4000000 in
set_option maxRecDepth 100000 in
theorem k_X2_riseBy {l : Launch} {sx : List sx_T} {D : va_G} {cI cZ cO : ClassId} (a_laws : Nat) (a_laws_codes : Nat) (a_laws_lengths : Nat) (a_laws_letters : Nat) (a_laws_stack : Nat) (rw : Nat → Nat) (laws_size : Int32) (laws_holds : Int32) (laws_lengths : Nat → Int32) (laws_c0 : Nat → Int32) (laws_c1 : Nat → Int32) (laws_c2 : Nat → Int32) (laws_c3 : Nat → Int32) (r0 : Int32) (o_laws_letters : Nat → Int32) (o_laws_stack : Nat → Int32) (laws_letters : Nat → Int32) (laws_stack : Nat → Int32) (p1 : Int32) (p2 : Int32) (p3 : Int32) (p4 : Int32) (p5 : Int32) (p6 : Int32) (hF : f_X2_riseBy laws_holds laws_lengths laws_c0 laws_c1 laws_c2 laws_c3 laws_letters laws_stack p1 p2 p3 p4 p5 p6 = some (r0, o_laws_letters, o_laws_stack)) : CtI l yX2_riseBy wsX2_riseBy rm_X2_riseBy sx D (tyL cI cZ cO) [.ref a_laws, .int p1, .int p2, .int p3, .int p4, .int p5, .int p6] [(oX2 a_laws (.int laws_size) (.int laws_holds) (.ref a_laws_codes) (.ref a_laws_lengths) (.ref a_laws_letters) (.ref a_laws_stack)), (a_laws_codes, .inl (cO, 4, .inr (.inr (.inr (.inr (rwF rw)))))), (a_laws_lengths, .inl (cI, 4, .inl laws_lengths)), (a_laws_letters, .inl (cI, 6, .inl laws_letters)), (a_laws_stack, .inl (cI, 241, .inl laws_stack)), ((rw 0), .inl (cI, 241, .inl laws_c0)), ((rw 1), .inl (cI, 241, .inl laws_c1)), ((rw 2), .inl (cI, 241, .inl laws_c2)), ((rw 3), .inl (cI, 241, .inl laws_c3))] r0 [(oX2 a_laws (.int laws_size) (.int laws_holds) (.ref a_laws_codes) (.ref a_laws_lengths) (.ref a_laws_letters) (.ref a_laws_stack)), (a_laws_codes, .inl (cO, 4, .inr (.inr (.inr (.inr (rwF rw)))))), (a_laws_lengths, .inl (cI, 4, .inl laws_lengths)), (a_laws_letters, .inl (cI, 6, .inl o_laws_letters)), (a_laws_stack, .inl (cI, 241, .inl o_laws_stack)), ((rw 0), .inl (cI, 241, .inl laws_c0)), ((rw 1), .inl (cI, 241, .inl laws_c1)), ((rw 2), .inl (cI, 241, .inl laws_c2)), ((rw 3), .inl (cI, 241, .inl laws_c3))] := by
  refine ctI_of (cc := cX2_riseBy) (ret := (some .int)) (maxL := 8) (by decide) rfl (Nat.le_of_ble_eq_true rfl) ?_
  intro p e s m below meth c A ls C K hw hl
  exact q_X2_riseBy_0 C K a_laws a_laws_codes a_laws_lengths a_laws_letters a_laws_stack rw laws_size laws_holds laws_lengths laws_c0 laws_c1 laws_c2 laws_c3 r0 o_laws_letters o_laws_stack laws_letters laws_stack p1 p2 p3 p4 p5 p6 hF hw (lv_sub hl [0, 1, 2, 3, 4, 5, 6] rfl)
end
section
abbrev rm_X9_begin : Room := { frames := 0, cells := 0, slots := 0, locals := 0 }
theorem in_X9_begin_X9 : ∀ w ∈ u_ws RX9 TX9 3, w ∈ wsX9_begin := fun w h => List.mem_cons_of_mem _ (bi_wsX90 w h)
theorem in_X9_begin_X5 : ∀ w ∈ u_ws RX5 TX5 10, w ∈ wsX9_begin := fun w h => List.mem_cons_of_mem _ (bi_wsX50 w h)
theorem lk_X9_begin_0 : Cond.fieldLink RX9 11 "GloveHouses$State" "cells" "[I" ∈ wsX9_begin := List.mem_cons_of_mem _ (bi_wsL_law0_r5 _ (List.mem_of_getElem? (i := 11) rfl))
theorem lk_X9_begin_1 : Cond.fieldLink RX9 15 "GloveHouses$State" "told" "LGloveHouses$Peace;" ∈ wsX9_begin := List.mem_cons_of_mem _ (bi_wsL_law0_r5 _ (List.mem_of_getElem? (i := 12) rfl))
theorem lk_X9_begin_2 : Cond.fieldLink RX9 29 "GloveHouses$Peace" "free" "[I" ∈ wsX9_begin := List.mem_cons_of_mem _ (bi_wsL_law0_r21 _ (List.mem_of_getElem? (i := 1) rfl))
theorem lk_X9_begin_3 : Cond.fieldLink RX9 34 "GloveHouses$Peace" "stuffed" "[I" ∈ wsX9_begin := List.mem_cons_of_mem _ (bi_wsL_law0_r21 _ (List.mem_of_getElem? (i := 2) rfl))
theorem lk_X9_begin_4 : Cond.fieldLink RX9 37 "GloveHouses$Peace" "pride" "I" ∈ wsX9_begin := List.mem_cons_of_mem _ (bi_wsL_law0_r21 _ (List.mem_of_getElem? (i := 3) rfl))
theorem lk_X9_begin_5 : Cond.fieldLink RX9 41 "GloveHouses$Peace" "coins" "I" ∈ wsX9_begin := List.mem_cons_of_mem _ (bi_wsL_law0_r21 _ (List.mem_of_getElem? (i := 4) rfl))
set_option maxHeartbeats 4000000 in
set_option maxRecDepth 100000 in
theorem q_X9_begin_95 {p : Program} {l : Launch} {e : Env} {s : State} {m : MethodId} {args : Array Value} {below : List Frame} {meth : Method} {c : Code} {sx : List sx_T} {D : va_G} {cI cZ cO : ClassId} {A : Nat → Prop} (C : Cx p s m args meth c RX9 wsX9_begin cX9_begin 2 none) (K : Kx sx D (tyL cI cZ cO) A s) (a_told : Nat) (a_told_house : Nat) (a_told_free : Nat) (a_told_stuffed : Nat) (a_told_after : Nat) (a_told_weight : Nat) (a_told_need : Nat) (a_S : Nat) (a_S_cells : Nat) (a_laws : Nat) (told_gloves : Int32) (told_matters : Int32) (told_pride : Int32) (told_coins : Int32) (told_free : Nat → Int32) (told_stuffed : Nat → Int32) (o_S_cells : Nat → Int32)   (k95 : (Nat → Int32) → Int32 → Option ((Nat → Int32))) (hk95 : ∀ (S_cells : Nat → Int32) (v1 : Int32) (H : Heap) (locs : List Loc) (ls : Array Slot), k95 S_cells v1 = some o_S_cells → Wo D A s [(oX5 a_told (.int told_gloves) (.int told_matters) (.int told_pride) (.int told_coins) (.ref a_told_house) (.ref a_told_free) (.ref a_told_stuffed) (.ref a_told_after) (.ref a_told_weight) (.ref a_told_need)), (a_told_free, .inl (cI, 6, .inl told_free)), (a_told_stuffed, .inl (cI, 6, .inl told_stuffed)), (oX9 a_S (.ref a_S_cells) (.ref a_told) (.ref a_laws)), (a_S_cells, .inl (cI, 69, .inl S_cells))] H locs → lv_has ls 2 [(0, .ref a_S), (1, .int v1)] → W p l e rm_X9_begin s m args below meth c H locs 0 0 (MQ below (QcV D A [(oX5 a_told (.int told_gloves) (.int told_matters) (.int told_pride) (.int told_coins) (.ref a_told_house) (.ref a_told_free) (.ref a_told_stuffed) (.ref a_told_after) (.ref a_told_weight) (.ref a_told_need)), (a_told_free, .inl (cI, 6, .inl told_free)), (a_told_stuffed, .inl (cI, 6, .inl told_stuffed)), (oX9 a_S (.ref a_S_cells) (.ref a_told) (.ref a_laws)), (a_S_cells, .inl (cI, 69, .inl o_S_cells))]) args s 0 0 A) (F0 m 95 ls [])) (S_cells : Nat → Int32) (v1 : Int32) {H : Heap} {locs : List Loc} {ls : Array Slot} (hf : b_X9_begin_95 told_pride told_coins told_free told_stuffed k95 S_cells v1 = some o_S_cells) (hw : Wo D A s [(oX5 a_told (.int told_gloves) (.int told_matters) (.int told_pride) (.int told_coins) (.ref a_told_house) (.ref a_told_free) (.ref a_told_stuffed) (.ref a_told_after) (.ref a_told_weight) (.ref a_told_need)), (a_told_free, .inl (cI, 6, .inl told_free)), (a_told_stuffed, .inl (cI, 6, .inl told_stuffed)), (oX9 a_S (.ref a_S_cells) (.ref a_told) (.ref a_laws)), (a_S_cells, .inl (cI, 69, .inl S_cells))] H locs) (hl : lv_has ls 2 [(0, .ref a_S), (1, .int v1)]) : W p l e rm_X9_begin s m args below meth c H locs 0 0 (MQ below (QcV D A [(oX5 a_told (.int told_gloves) (.int told_matters) (.int told_pride) (.int told_coins) (.ref a_told_house) (.ref a_told_free) (.ref a_told_stuffed) (.ref a_told_after) (.ref a_told_weight) (.ref a_told_need)), (a_told_free, .inl (cI, 6, .inl told_free)), (a_told_stuffed, .inl (cI, 6, .inl told_stuffed)), (oX9 a_S (.ref a_S_cells) (.ref a_told) (.ref a_laws)), (a_S_cells, .inl (cI, 69, .inl o_S_cells))]) args s 0 0 A) (F0 m 95 ls []) := by
  obtain ⟨hx, hb, hml, hown, hts, hr, hlk⟩ := id C
  obtain ⟨hK, hX, hA⟩ := id K
  unfold b_X9_begin_95 at hf
  refine lv_iload_n hx hb dX9_begin_95 rfl (lv_at hl 1 rfl) ?_
  refine lv_iconst (v := (5 : Int32)) hx hb dX9_begin_96 (by decide) ?_
  refine lv_icmp_ge (tgt := 116) hx hb dX9_begin_97 (by decide) (fun hc => ?_) (fun hc => ?_)
  · have hf := (if_pos hc).symm.trans hf
    refine lv_aload_n hx hb dX9_begin_116 rfl (lv_at hl 0 rfl) ?_
    refine va_get (ci := 9) (v := .ref a_S_cells) (C := RX9) (T := TX9) (N := 3) hx hb hts in_X9_begin_X9 hown hK hw.1 3 rfl rfl 0 (by decide) (hts _ lk_X9_begin_0) (fun _ h9 => h9) rfl dX9_begin_117 ?_
    refine lv_bipush (v := (65 : Int32)) hx hb dX9_begin_120 (by decide) ?_
    refine lv_iconst (v := (0 : Int32)) hx hb dX9_begin_122 (by decide) ?_
    obtain ⟨hc_1, hf⟩ := gd_some hf
    obtain ⟨S_cells_2, e_S_cells_2, hf⟩ := bnd_some hf
    refine va_iast hx hb hK hw.1 hw.2.1 hw.2.2 4 0 rfl rfl (inB_in hc_1) dX9_begin_123 (fun H locs hP hD hS => ?_)
    have hw : Wo D A s [(oX5 a_told (.int told_gloves) (.int told_matters) (.int told_pride) (.int told_coins) (.ref a_told_house) (.ref a_told_free) (.ref a_told_stuffed) (.ref a_told_after) (.ref a_told_weight) (.ref a_told_need)), (a_told_free, .inl (cI, 6, .inl told_free)), (a_told_stuffed, .inl (cI, 6, .inl told_stuffed)), (oX9 a_S (.ref a_S_cells) (.ref a_told) (.ref a_laws)), (a_S_cells, .inl (cI, 69, .inl S_cells_2))] H locs := by rw [e_S_cells_2]; exact ⟨hP, hD, hS⟩
    refine lv_aload_n hx hb dX9_begin_124 rfl (lv_at hl 0 rfl) ?_
    refine va_get (ci := 9) (v := .ref a_S_cells) (C := RX9) (T := TX9) (N := 3) hx hb hts in_X9_begin_X9 hown hK hw.1 3 rfl rfl 0 (by decide) (hts _ lk_X9_begin_0) (fun _ h9 => h9) rfl dX9_begin_125 ?_
    refine lv_bipush (v := (66 : Int32)) hx hb dX9_begin_128 (by decide) ?_
    refine lv_aload_n hx hb dX9_begin_130 rfl (lv_at hl 0 rfl) ?_
    refine va_get (ci := 9) (v := .ref a_told) (C := RX9) (T := TX9) (N := 3) hx hb hts in_X9_begin_X9 hown hK hw.1 3 rfl rfl 1 (by decide) (hts _ lk_X9_begin_1) (fun _ h9 => h9) rfl dX9_begin_131 ?_
    refine va_get (ci := 5) (v := .int told_pride) (C := RX5) (T := TX5) (N := 10) hx hb hts in_X9_begin_X5 hown hK hw.1 0 rfl rfl 2 (by decide) (hts _ lk_X9_begin_4) (fun _ h9 => h9) rfl dX9_begin_134 ?_
    obtain ⟨hc_3, hf⟩ := gd_some hf
    obtain ⟨S_cells_4, e_S_cells_4, hf⟩ := bnd_some hf
    refine va_iast hx hb hK hw.1 hw.2.1 hw.2.2 4 0 rfl rfl (inB_in hc_3) dX9_begin_137 (fun H locs hP hD hS => ?_)
    have hw : Wo D A s [(oX5 a_told (.int told_gloves) (.int told_matters) (.int told_pride) (.int told_coins) (.ref a_told_house) (.ref a_told_free) (.ref a_told_stuffed) (.ref a_told_after) (.ref a_told_weight) (.ref a_told_need)), (a_told_free, .inl (cI, 6, .inl told_free)), (a_told_stuffed, .inl (cI, 6, .inl told_stuffed)), (oX9 a_S (.ref a_S_cells) (.ref a_told) (.ref a_laws)), (a_S_cells, .inl (cI, 69, .inl S_cells_4))] H locs := by rw [e_S_cells_4]; exact ⟨hP, hD, hS⟩
    refine lv_aload_n hx hb dX9_begin_138 rfl (lv_at hl 0 rfl) ?_
    refine va_get (ci := 9) (v := .ref a_S_cells) (C := RX9) (T := TX9) (N := 3) hx hb hts in_X9_begin_X9 hown hK hw.1 3 rfl rfl 0 (by decide) (hts _ lk_X9_begin_0) (fun _ h9 => h9) rfl dX9_begin_139 ?_
    refine lv_bipush (v := (67 : Int32)) hx hb dX9_begin_142 (by decide) ?_
    refine lv_aload_n hx hb dX9_begin_144 rfl (lv_at hl 0 rfl) ?_
    refine va_get (ci := 9) (v := .ref a_told) (C := RX9) (T := TX9) (N := 3) hx hb hts in_X9_begin_X9 hown hK hw.1 3 rfl rfl 1 (by decide) (hts _ lk_X9_begin_1) (fun _ h9 => h9) rfl dX9_begin_145 ?_
    refine va_get (ci := 5) (v := .int told_coins) (C := RX5) (T := TX5) (N := 10) hx hb hts in_X9_begin_X5 hown hK hw.1 0 rfl rfl 3 (by decide) (hts _ lk_X9_begin_5) (fun _ h9 => h9) rfl dX9_begin_148 ?_
    obtain ⟨hc_5, hf⟩ := gd_some hf
    obtain ⟨S_cells_6, e_S_cells_6, hf⟩ := bnd_some hf
    refine va_iast hx hb hK hw.1 hw.2.1 hw.2.2 4 0 rfl rfl (inB_in hc_5) dX9_begin_151 (fun H locs hP hD hS => ?_)
    have hw : Wo D A s [(oX5 a_told (.int told_gloves) (.int told_matters) (.int told_pride) (.int told_coins) (.ref a_told_house) (.ref a_told_free) (.ref a_told_stuffed) (.ref a_told_after) (.ref a_told_weight) (.ref a_told_need)), (a_told_free, .inl (cI, 6, .inl told_free)), (a_told_stuffed, .inl (cI, 6, .inl told_stuffed)), (oX9 a_S (.ref a_S_cells) (.ref a_told) (.ref a_laws)), (a_S_cells, .inl (cI, 69, .inl S_cells_6))] H locs := by rw [e_S_cells_6]; exact ⟨hP, hD, hS⟩
    refine lv_aload_n hx hb dX9_begin_152 rfl (lv_at hl 0 rfl) ?_
    refine va_get (ci := 9) (v := .ref a_S_cells) (C := RX9) (T := TX9) (N := 3) hx hb hts in_X9_begin_X9 hown hK hw.1 3 rfl rfl 0 (by decide) (hts _ lk_X9_begin_0) (fun _ h9 => h9) rfl dX9_begin_153 ?_
    refine lv_bipush (v := (68 : Int32)) hx hb dX9_begin_156 (by decide) ?_
    refine lv_iconst (v := (0 : Int32)) hx hb dX9_begin_158 (by decide) ?_
    obtain ⟨hc_7, hf⟩ := gd_some hf
    obtain ⟨S_cells_8, e_S_cells_8, hf⟩ := bnd_some hf
    refine va_iast hx hb hK hw.1 hw.2.1 hw.2.2 4 0 rfl rfl (inB_in hc_7) dX9_begin_159 (fun H locs hP hD hS => ?_)
    have hw : Wo D A s [(oX5 a_told (.int told_gloves) (.int told_matters) (.int told_pride) (.int told_coins) (.ref a_told_house) (.ref a_told_free) (.ref a_told_stuffed) (.ref a_told_after) (.ref a_told_weight) (.ref a_told_need)), (a_told_free, .inl (cI, 6, .inl told_free)), (a_told_stuffed, .inl (cI, 6, .inl told_stuffed)), (oX9 a_S (.ref a_S_cells) (.ref a_told) (.ref a_laws)), (a_S_cells, .inl (cI, 69, .inl S_cells_8))] H locs := by rw [e_S_cells_8]; exact ⟨hP, hD, hS⟩
    clear hk95; cases hf
    exact retV C hw dX9_begin_160
  · have hf := (if_neg hc).symm.trans hf
    refine lv_aload_n hx hb dX9_begin_100 rfl (lv_at hl 0 rfl) ?_
    refine va_get (ci := 9) (v := .ref a_S_cells) (C := RX9) (T := TX9) (N := 3) hx hb hts in_X9_begin_X9 hown hK hw.1 3 rfl rfl 0 (by decide) (hts _ lk_X9_begin_0) (fun _ h9 => h9) rfl dX9_begin_101 ?_
    refine lv_bipush (v := (60 : Int32)) hx hb dX9_begin_104 (by decide) ?_
    refine lv_iload_n hx hb dX9_begin_106 rfl (lv_at hl 1 rfl) ?_
    refine lv_iadd hx hb dX9_begin_107 ?_
    refine lv_iconst (v := (-1 : Int32)) hx hb dX9_begin_108 (by decide) ?_
    obtain ⟨hc_9, hf⟩ := gd_some hf
    obtain ⟨S_cells_10, e_S_cells_10, hf⟩ := bnd_some hf
    refine va_iast hx hb hK hw.1 hw.2.1 hw.2.2 4 0 rfl rfl (inB_in hc_9) dX9_begin_109 (fun H locs hP hD hS => ?_)
    have hw : Wo D A s [(oX5 a_told (.int told_gloves) (.int told_matters) (.int told_pride) (.int told_coins) (.ref a_told_house) (.ref a_told_free) (.ref a_told_stuffed) (.ref a_told_after) (.ref a_told_weight) (.ref a_told_need)), (a_told_free, .inl (cI, 6, .inl told_free)), (a_told_stuffed, .inl (cI, 6, .inl told_stuffed)), (oX9 a_S (.ref a_S_cells) (.ref a_told) (.ref a_laws)), (a_S_cells, .inl (cI, 69, .inl S_cells_10))] H locs := by rw [e_S_cells_10]; exact ⟨hP, hD, hS⟩
    obtain ⟨v1_11, e_v1_11, hf⟩ := bnd_some hf
    refine lv_iinc (v := v1_11) (lv' := [(1, .int v1_11), (0, .ref a_S)]) hx hb dX9_begin_110 hl (k := 1) rfl (by rw [e_v1_11]; rfl) (by decide) rfl (fun ls hl => ?_)
    refine lv_goto (tgt := 95) hx hb dX9_begin_113 (by decide) ?_
    exact hk95 S_cells_10 v1_11 _ _ _ hf hw (lv_sub hl [1, 0] rfl)
theorem qf_X9_begin_95 {p : Program} {l : Launch} {e : Env} {s : State} {m : MethodId} {args : Array Value} {below : List Frame} {meth : Method} {c : Code} {sx : List sx_T} {D : va_G} {cI cZ cO : ClassId} {A : Nat → Prop} (C : Cx p s m args meth c RX9 wsX9_begin cX9_begin 2 none) (K : Kx sx D (tyL cI cZ cO) A s) (a_told : Nat) (a_told_house : Nat) (a_told_free : Nat) (a_told_stuffed : Nat) (a_told_after : Nat) (a_told_weight : Nat) (a_told_need : Nat) (a_S : Nat) (a_S_cells : Nat) (a_laws : Nat) (told_gloves : Int32) (told_matters : Int32) (told_pride : Int32) (told_coins : Int32) (told_free : Nat → Int32) (told_stuffed : Nat → Int32) (o_S_cells : Nat → Int32)    (n : Nat) : ∀ (S_cells : Nat → Int32) (v1 : Int32) (H : Heap) (locs : List Loc) (ls : Array Slot), f_X9_begin_95 told_pride told_coins told_free told_stuffed  n S_cells v1 = some o_S_cells → Wo D A s [(oX5 a_told (.int told_gloves) (.int told_matters) (.int told_pride) (.int told_coins) (.ref a_told_house) (.ref a_told_free) (.ref a_told_stuffed) (.ref a_told_after) (.ref a_told_weight) (.ref a_told_need)), (a_told_free, .inl (cI, 6, .inl told_free)), (a_told_stuffed, .inl (cI, 6, .inl told_stuffed)), (oX9 a_S (.ref a_S_cells) (.ref a_told) (.ref a_laws)), (a_S_cells, .inl (cI, 69, .inl S_cells))] H locs → lv_has ls 2 [(0, .ref a_S), (1, .int v1)] → W p l e rm_X9_begin s m args below meth c H locs 0 0 (MQ below (QcV D A [(oX5 a_told (.int told_gloves) (.int told_matters) (.int told_pride) (.int told_coins) (.ref a_told_house) (.ref a_told_free) (.ref a_told_stuffed) (.ref a_told_after) (.ref a_told_weight) (.ref a_told_need)), (a_told_free, .inl (cI, 6, .inl told_free)), (a_told_stuffed, .inl (cI, 6, .inl told_stuffed)), (oX9 a_S (.ref a_S_cells) (.ref a_told) (.ref a_laws)), (a_S_cells, .inl (cI, 69, .inl o_S_cells))]) args s 0 0 A) (F0 m 95 ls []) := by
  induction n with
  | zero =>
    intro S_cells v1 H locs ls hf
    have h9 : (none : Option ((Nat → Int32))) = some o_S_cells := hf
    cases h9
  | succ n ih =>
    intro S_cells v1 H locs ls hf hw hl
    exact q_X9_begin_95 C K a_told a_told_house a_told_free a_told_stuffed a_told_after a_told_weight a_told_need a_S a_S_cells a_laws told_gloves told_matters told_pride told_coins told_free told_stuffed o_S_cells  (f_X9_begin_95 told_pride told_coins told_free told_stuffed  n) ih S_cells v1 hf hw hl
set_option maxHeartbeats 4000000 in
set_option maxRecDepth 100000 in
theorem q_X9_begin_23 {p : Program} {l : Launch} {e : Env} {s : State} {m : MethodId} {args : Array Value} {below : List Frame} {meth : Method} {c : Code} {sx : List sx_T} {D : va_G} {cI cZ cO : ClassId} {A : Nat → Prop} (C : Cx p s m args meth c RX9 wsX9_begin cX9_begin 2 none) (K : Kx sx D (tyL cI cZ cO) A s) (a_told : Nat) (a_told_house : Nat) (a_told_free : Nat) (a_told_stuffed : Nat) (a_told_after : Nat) (a_told_weight : Nat) (a_told_need : Nat) (a_S : Nat) (a_S_cells : Nat) (a_laws : Nat) (told_gloves : Int32) (told_matters : Int32) (told_pride : Int32) (told_coins : Int32) (told_free : Nat → Int32) (told_stuffed : Nat → Int32) (o_S_cells : Nat → Int32)   (k23 : (Nat → Int32) → Int32 → Option ((Nat → Int32))) (hk23 : ∀ (S_cells : Nat → Int32) (v1 : Int32) (H : Heap) (locs : List Loc) (ls : Array Slot), k23 S_cells v1 = some o_S_cells → Wo D A s [(oX5 a_told (.int told_gloves) (.int told_matters) (.int told_pride) (.int told_coins) (.ref a_told_house) (.ref a_told_free) (.ref a_told_stuffed) (.ref a_told_after) (.ref a_told_weight) (.ref a_told_need)), (a_told_free, .inl (cI, 6, .inl told_free)), (a_told_stuffed, .inl (cI, 6, .inl told_stuffed)), (oX9 a_S (.ref a_S_cells) (.ref a_told) (.ref a_laws)), (a_S_cells, .inl (cI, 69, .inl S_cells))] H locs → lv_has ls 2 [(0, .ref a_S), (1, .int v1)] → W p l e rm_X9_begin s m args below meth c H locs 0 0 (MQ below (QcV D A [(oX5 a_told (.int told_gloves) (.int told_matters) (.int told_pride) (.int told_coins) (.ref a_told_house) (.ref a_told_free) (.ref a_told_stuffed) (.ref a_told_after) (.ref a_told_weight) (.ref a_told_need)), (a_told_free, .inl (cI, 6, .inl told_free)), (a_told_stuffed, .inl (cI, 6, .inl told_stuffed)), (oX9 a_S (.ref a_S_cells) (.ref a_told) (.ref a_laws)), (a_S_cells, .inl (cI, 69, .inl o_S_cells))]) args s 0 0 A) (F0 m 23 ls [])) (S_cells : Nat → Int32) (v1 : Int32) {H : Heap} {locs : List Loc} {ls : Array Slot} (hf : b_X9_begin_23 told_pride told_coins told_free told_stuffed k23 S_cells v1 = some o_S_cells) (hw : Wo D A s [(oX5 a_told (.int told_gloves) (.int told_matters) (.int told_pride) (.int told_coins) (.ref a_told_house) (.ref a_told_free) (.ref a_told_stuffed) (.ref a_told_after) (.ref a_told_weight) (.ref a_told_need)), (a_told_free, .inl (cI, 6, .inl told_free)), (a_told_stuffed, .inl (cI, 6, .inl told_stuffed)), (oX9 a_S (.ref a_S_cells) (.ref a_told) (.ref a_laws)), (a_S_cells, .inl (cI, 69, .inl S_cells))] H locs) (hl : lv_has ls 2 [(0, .ref a_S), (1, .int v1)]) : W p l e rm_X9_begin s m args below meth c H locs 0 0 (MQ below (QcV D A [(oX5 a_told (.int told_gloves) (.int told_matters) (.int told_pride) (.int told_coins) (.ref a_told_house) (.ref a_told_free) (.ref a_told_stuffed) (.ref a_told_after) (.ref a_told_weight) (.ref a_told_need)), (a_told_free, .inl (cI, 6, .inl told_free)), (a_told_stuffed, .inl (cI, 6, .inl told_stuffed)), (oX9 a_S (.ref a_S_cells) (.ref a_told) (.ref a_laws)), (a_S_cells, .inl (cI, 69, .inl o_S_cells))]) args s 0 0 A) (F0 m 23 ls []) := by
  obtain ⟨hx, hb, hml, hown, hts, hr, hlk⟩ := id C
  obtain ⟨hK, hX, hA⟩ := id K
  unfold b_X9_begin_23 at hf
  refine lv_iload_n hx hb dX9_begin_23 rfl (lv_at hl 1 rfl) ?_
  refine lv_bipush (v := (6 : Int32)) hx hb dX9_begin_24 (by decide) ?_
  refine lv_icmp_ge (tgt := 93) hx hb dX9_begin_26 (by decide) (fun hc => ?_) (fun hc => ?_)
  · have hf := (if_pos hc).symm.trans hf
    refine lv_iconst (v := (0 : Int32)) hx hb dX9_begin_93 (by decide) ?_
    refine lv_istore_n (lv' := [(1, .int (0 : Int32)), (0, .ref a_S)]) hx hb dX9_begin_94 rfl hl (by decide) rfl (fun ls hl => ?_)
    exact qf_X9_begin_95 C K a_told a_told_house a_told_free a_told_stuffed a_told_after a_told_weight a_told_need a_S a_S_cells a_laws told_gloves told_matters told_pride told_coins told_free told_stuffed o_S_cells  fu S_cells (0 : Int32) _ _ _ hf hw (lv_sub hl [1, 0] rfl)
  · have hf := (if_neg hc).symm.trans hf
    refine lv_aload_n hx hb dX9_begin_29 rfl (lv_at hl 0 rfl) ?_
    refine va_get (ci := 9) (v := .ref a_S_cells) (C := RX9) (T := TX9) (N := 3) hx hb hts in_X9_begin_X9 hown hK hw.1 3 rfl rfl 0 (by decide) (hts _ lk_X9_begin_0) (fun _ h9 => h9) rfl dX9_begin_30 ?_
    refine lv_bipush (v := (36 : Int32)) hx hb dX9_begin_33 (by decide) ?_
    refine lv_iload_n hx hb dX9_begin_35 rfl (lv_at hl 1 rfl) ?_
    refine lv_iadd hx hb dX9_begin_36 ?_
    refine lv_aload_n hx hb dX9_begin_37 rfl (lv_at hl 0 rfl) ?_
    refine va_get (ci := 9) (v := .ref a_told) (C := RX9) (T := TX9) (N := 3) hx hb hts in_X9_begin_X9 hown hK hw.1 3 rfl rfl 1 (by decide) (hts _ lk_X9_begin_1) (fun _ h9 => h9) rfl dX9_begin_38 ?_
    refine va_get (ci := 5) (v := .ref a_told_free) (C := RX5) (T := TX5) (N := 10) hx hb hts in_X9_begin_X5 hown hK hw.1 0 rfl rfl 5 (by decide) (hts _ lk_X9_begin_2) (fun _ h9 => h9) rfl dX9_begin_41 ?_
    refine lv_iload_n hx hb dX9_begin_44 rfl (lv_at hl 1 rfl) ?_
    obtain ⟨hc_1, hf⟩ := gd_some hf
    refine va_iald hx hb hK hw.1 1 0 rfl rfl (inB_in hc_1) dX9_begin_45 ?_
    obtain ⟨hc_2, hf⟩ := gd_some hf
    obtain ⟨S_cells_3, e_S_cells_3, hf⟩ := bnd_some hf
    refine va_iast hx hb hK hw.1 hw.2.1 hw.2.2 4 0 rfl rfl (inB_in hc_2) dX9_begin_46 (fun H locs hP hD hS => ?_)
    have hw : Wo D A s [(oX5 a_told (.int told_gloves) (.int told_matters) (.int told_pride) (.int told_coins) (.ref a_told_house) (.ref a_told_free) (.ref a_told_stuffed) (.ref a_told_after) (.ref a_told_weight) (.ref a_told_need)), (a_told_free, .inl (cI, 6, .inl told_free)), (a_told_stuffed, .inl (cI, 6, .inl told_stuffed)), (oX9 a_S (.ref a_S_cells) (.ref a_told) (.ref a_laws)), (a_S_cells, .inl (cI, 69, .inl S_cells_3))] H locs := by rw [e_S_cells_3]; exact ⟨hP, hD, hS⟩
    refine lv_aload_n hx hb dX9_begin_47 rfl (lv_at hl 0 rfl) ?_
    refine va_get (ci := 9) (v := .ref a_S_cells) (C := RX9) (T := TX9) (N := 3) hx hb hts in_X9_begin_X9 hown hK hw.1 3 rfl rfl 0 (by decide) (hts _ lk_X9_begin_0) (fun _ h9 => h9) rfl dX9_begin_48 ?_
    refine lv_bipush (v := (42 : Int32)) hx hb dX9_begin_51 (by decide) ?_
    refine lv_iload_n hx hb dX9_begin_53 rfl (lv_at hl 1 rfl) ?_
    refine lv_iadd hx hb dX9_begin_54 ?_
    refine lv_aload_n hx hb dX9_begin_55 rfl (lv_at hl 0 rfl) ?_
    refine va_get (ci := 9) (v := .ref a_told) (C := RX9) (T := TX9) (N := 3) hx hb hts in_X9_begin_X9 hown hK hw.1 3 rfl rfl 1 (by decide) (hts _ lk_X9_begin_1) (fun _ h9 => h9) rfl dX9_begin_56 ?_
    refine va_get (ci := 5) (v := .ref a_told_stuffed) (C := RX5) (T := TX5) (N := 10) hx hb hts in_X9_begin_X5 hown hK hw.1 0 rfl rfl 6 (by decide) (hts _ lk_X9_begin_3) (fun _ h9 => h9) rfl dX9_begin_59 ?_
    refine lv_iload_n hx hb dX9_begin_62 rfl (lv_at hl 1 rfl) ?_
    obtain ⟨hc_4, hf⟩ := gd_some hf
    refine va_iald hx hb hK hw.1 2 0 rfl rfl (inB_in hc_4) dX9_begin_63 ?_
    obtain ⟨hc_5, hf⟩ := gd_some hf
    obtain ⟨S_cells_6, e_S_cells_6, hf⟩ := bnd_some hf
    refine va_iast hx hb hK hw.1 hw.2.1 hw.2.2 4 0 rfl rfl (inB_in hc_5) dX9_begin_64 (fun H locs hP hD hS => ?_)
    have hw : Wo D A s [(oX5 a_told (.int told_gloves) (.int told_matters) (.int told_pride) (.int told_coins) (.ref a_told_house) (.ref a_told_free) (.ref a_told_stuffed) (.ref a_told_after) (.ref a_told_weight) (.ref a_told_need)), (a_told_free, .inl (cI, 6, .inl told_free)), (a_told_stuffed, .inl (cI, 6, .inl told_stuffed)), (oX9 a_S (.ref a_S_cells) (.ref a_told) (.ref a_laws)), (a_S_cells, .inl (cI, 69, .inl S_cells_6))] H locs := by rw [e_S_cells_6]; exact ⟨hP, hD, hS⟩
    refine lv_aload_n hx hb dX9_begin_65 rfl (lv_at hl 0 rfl) ?_
    refine va_get (ci := 9) (v := .ref a_S_cells) (C := RX9) (T := TX9) (N := 3) hx hb hts in_X9_begin_X9 hown hK hw.1 3 rfl rfl 0 (by decide) (hts _ lk_X9_begin_0) (fun _ h9 => h9) rfl dX9_begin_66 ?_
    refine lv_bipush (v := (48 : Int32)) hx hb dX9_begin_69 (by decide) ?_
    refine lv_iload_n hx hb dX9_begin_71 rfl (lv_at hl 1 rfl) ?_
    refine lv_iadd hx hb dX9_begin_72 ?_
    refine lv_iconst (v := (1 : Int32)) hx hb dX9_begin_73 (by decide) ?_
    refine lv_iload_n hx hb dX9_begin_74 rfl (lv_at hl 1 rfl) ?_
    refine lv_ishl hx hb dX9_begin_75 ?_
    obtain ⟨hc_7, hf⟩ := gd_some hf
    obtain ⟨S_cells_8, e_S_cells_8, hf⟩ := bnd_some hf
    refine va_iast hx hb hK hw.1 hw.2.1 hw.2.2 4 0 rfl rfl (inB_in hc_7) dX9_begin_76 (fun H locs hP hD hS => ?_)
    have hw : Wo D A s [(oX5 a_told (.int told_gloves) (.int told_matters) (.int told_pride) (.int told_coins) (.ref a_told_house) (.ref a_told_free) (.ref a_told_stuffed) (.ref a_told_after) (.ref a_told_weight) (.ref a_told_need)), (a_told_free, .inl (cI, 6, .inl told_free)), (a_told_stuffed, .inl (cI, 6, .inl told_stuffed)), (oX9 a_S (.ref a_S_cells) (.ref a_told) (.ref a_laws)), (a_S_cells, .inl (cI, 69, .inl S_cells_8))] H locs := by rw [e_S_cells_8]; exact ⟨hP, hD, hS⟩
    refine lv_aload_n hx hb dX9_begin_77 rfl (lv_at hl 0 rfl) ?_
    refine va_get (ci := 9) (v := .ref a_S_cells) (C := RX9) (T := TX9) (N := 3) hx hb hts in_X9_begin_X9 hown hK hw.1 3 rfl rfl 0 (by decide) (hts _ lk_X9_begin_0) (fun _ h9 => h9) rfl dX9_begin_78 ?_
    refine lv_bipush (v := (54 : Int32)) hx hb dX9_begin_81 (by decide) ?_
    refine lv_iload_n hx hb dX9_begin_83 rfl (lv_at hl 1 rfl) ?_
    refine lv_iadd hx hb dX9_begin_84 ?_
    refine lv_iconst (v := (-1 : Int32)) hx hb dX9_begin_85 (by decide) ?_
    obtain ⟨hc_9, hf⟩ := gd_some hf
    obtain ⟨S_cells_10, e_S_cells_10, hf⟩ := bnd_some hf
    refine va_iast hx hb hK hw.1 hw.2.1 hw.2.2 4 0 rfl rfl (inB_in hc_9) dX9_begin_86 (fun H locs hP hD hS => ?_)
    have hw : Wo D A s [(oX5 a_told (.int told_gloves) (.int told_matters) (.int told_pride) (.int told_coins) (.ref a_told_house) (.ref a_told_free) (.ref a_told_stuffed) (.ref a_told_after) (.ref a_told_weight) (.ref a_told_need)), (a_told_free, .inl (cI, 6, .inl told_free)), (a_told_stuffed, .inl (cI, 6, .inl told_stuffed)), (oX9 a_S (.ref a_S_cells) (.ref a_told) (.ref a_laws)), (a_S_cells, .inl (cI, 69, .inl S_cells_10))] H locs := by rw [e_S_cells_10]; exact ⟨hP, hD, hS⟩
    obtain ⟨v1_11, e_v1_11, hf⟩ := bnd_some hf
    refine lv_iinc (v := v1_11) (lv' := [(1, .int v1_11), (0, .ref a_S)]) hx hb dX9_begin_87 hl (k := 1) rfl (by rw [e_v1_11]; rfl) (by decide) rfl (fun ls hl => ?_)
    refine lv_goto (tgt := 23) hx hb dX9_begin_90 (by decide) ?_
    exact hk23 S_cells_10 v1_11 _ _ _ hf hw (lv_sub hl [1, 0] rfl)
theorem qf_X9_begin_23 {p : Program} {l : Launch} {e : Env} {s : State} {m : MethodId} {args : Array Value} {below : List Frame} {meth : Method} {c : Code} {sx : List sx_T} {D : va_G} {cI cZ cO : ClassId} {A : Nat → Prop} (C : Cx p s m args meth c RX9 wsX9_begin cX9_begin 2 none) (K : Kx sx D (tyL cI cZ cO) A s) (a_told : Nat) (a_told_house : Nat) (a_told_free : Nat) (a_told_stuffed : Nat) (a_told_after : Nat) (a_told_weight : Nat) (a_told_need : Nat) (a_S : Nat) (a_S_cells : Nat) (a_laws : Nat) (told_gloves : Int32) (told_matters : Int32) (told_pride : Int32) (told_coins : Int32) (told_free : Nat → Int32) (told_stuffed : Nat → Int32) (o_S_cells : Nat → Int32)    (n : Nat) : ∀ (S_cells : Nat → Int32) (v1 : Int32) (H : Heap) (locs : List Loc) (ls : Array Slot), f_X9_begin_23 told_pride told_coins told_free told_stuffed  n S_cells v1 = some o_S_cells → Wo D A s [(oX5 a_told (.int told_gloves) (.int told_matters) (.int told_pride) (.int told_coins) (.ref a_told_house) (.ref a_told_free) (.ref a_told_stuffed) (.ref a_told_after) (.ref a_told_weight) (.ref a_told_need)), (a_told_free, .inl (cI, 6, .inl told_free)), (a_told_stuffed, .inl (cI, 6, .inl told_stuffed)), (oX9 a_S (.ref a_S_cells) (.ref a_told) (.ref a_laws)), (a_S_cells, .inl (cI, 69, .inl S_cells))] H locs → lv_has ls 2 [(0, .ref a_S), (1, .int v1)] → W p l e rm_X9_begin s m args below meth c H locs 0 0 (MQ below (QcV D A [(oX5 a_told (.int told_gloves) (.int told_matters) (.int told_pride) (.int told_coins) (.ref a_told_house) (.ref a_told_free) (.ref a_told_stuffed) (.ref a_told_after) (.ref a_told_weight) (.ref a_told_need)), (a_told_free, .inl (cI, 6, .inl told_free)), (a_told_stuffed, .inl (cI, 6, .inl told_stuffed)), (oX9 a_S (.ref a_S_cells) (.ref a_told) (.ref a_laws)), (a_S_cells, .inl (cI, 69, .inl o_S_cells))]) args s 0 0 A) (F0 m 23 ls []) := by
  induction n with
  | zero =>
    intro S_cells v1 H locs ls hf
    have h9 : (none : Option ((Nat → Int32))) = some o_S_cells := hf
    cases h9
  | succ n ih =>
    intro S_cells v1 H locs ls hf hw hl
    exact q_X9_begin_23 C K a_told a_told_house a_told_free a_told_stuffed a_told_after a_told_weight a_told_need a_S a_S_cells a_laws told_gloves told_matters told_pride told_coins told_free told_stuffed o_S_cells  (f_X9_begin_23 told_pride told_coins told_free told_stuffed  n) ih S_cells v1 hf hw hl
set_option maxHeartbeats 4000000 in
set_option maxRecDepth 100000 in
theorem q_X9_begin_2 {p : Program} {l : Launch} {e : Env} {s : State} {m : MethodId} {args : Array Value} {below : List Frame} {meth : Method} {c : Code} {sx : List sx_T} {D : va_G} {cI cZ cO : ClassId} {A : Nat → Prop} (C : Cx p s m args meth c RX9 wsX9_begin cX9_begin 2 none) (K : Kx sx D (tyL cI cZ cO) A s) (a_told : Nat) (a_told_house : Nat) (a_told_free : Nat) (a_told_stuffed : Nat) (a_told_after : Nat) (a_told_weight : Nat) (a_told_need : Nat) (a_S : Nat) (a_S_cells : Nat) (a_laws : Nat) (told_gloves : Int32) (told_matters : Int32) (told_pride : Int32) (told_coins : Int32) (told_free : Nat → Int32) (told_stuffed : Nat → Int32) (o_S_cells : Nat → Int32)   (k2 : (Nat → Int32) → Int32 → Option ((Nat → Int32))) (hk2 : ∀ (S_cells : Nat → Int32) (v1 : Int32) (H : Heap) (locs : List Loc) (ls : Array Slot), k2 S_cells v1 = some o_S_cells → Wo D A s [(oX5 a_told (.int told_gloves) (.int told_matters) (.int told_pride) (.int told_coins) (.ref a_told_house) (.ref a_told_free) (.ref a_told_stuffed) (.ref a_told_after) (.ref a_told_weight) (.ref a_told_need)), (a_told_free, .inl (cI, 6, .inl told_free)), (a_told_stuffed, .inl (cI, 6, .inl told_stuffed)), (oX9 a_S (.ref a_S_cells) (.ref a_told) (.ref a_laws)), (a_S_cells, .inl (cI, 69, .inl S_cells))] H locs → lv_has ls 2 [(0, .ref a_S), (1, .int v1)] → W p l e rm_X9_begin s m args below meth c H locs 0 0 (MQ below (QcV D A [(oX5 a_told (.int told_gloves) (.int told_matters) (.int told_pride) (.int told_coins) (.ref a_told_house) (.ref a_told_free) (.ref a_told_stuffed) (.ref a_told_after) (.ref a_told_weight) (.ref a_told_need)), (a_told_free, .inl (cI, 6, .inl told_free)), (a_told_stuffed, .inl (cI, 6, .inl told_stuffed)), (oX9 a_S (.ref a_S_cells) (.ref a_told) (.ref a_laws)), (a_S_cells, .inl (cI, 69, .inl o_S_cells))]) args s 0 0 A) (F0 m 2 ls [])) (S_cells : Nat → Int32) (v1 : Int32) {H : Heap} {locs : List Loc} {ls : Array Slot} (hf : b_X9_begin_2 told_pride told_coins told_free told_stuffed k2 S_cells v1 = some o_S_cells) (hw : Wo D A s [(oX5 a_told (.int told_gloves) (.int told_matters) (.int told_pride) (.int told_coins) (.ref a_told_house) (.ref a_told_free) (.ref a_told_stuffed) (.ref a_told_after) (.ref a_told_weight) (.ref a_told_need)), (a_told_free, .inl (cI, 6, .inl told_free)), (a_told_stuffed, .inl (cI, 6, .inl told_stuffed)), (oX9 a_S (.ref a_S_cells) (.ref a_told) (.ref a_laws)), (a_S_cells, .inl (cI, 69, .inl S_cells))] H locs) (hl : lv_has ls 2 [(0, .ref a_S), (1, .int v1)]) : W p l e rm_X9_begin s m args below meth c H locs 0 0 (MQ below (QcV D A [(oX5 a_told (.int told_gloves) (.int told_matters) (.int told_pride) (.int told_coins) (.ref a_told_house) (.ref a_told_free) (.ref a_told_stuffed) (.ref a_told_after) (.ref a_told_weight) (.ref a_told_need)), (a_told_free, .inl (cI, 6, .inl told_free)), (a_told_stuffed, .inl (cI, 6, .inl told_stuffed)), (oX9 a_S (.ref a_S_cells) (.ref a_told) (.ref a_laws)), (a_S_cells, .inl (cI, 69, .inl o_S_cells))]) args s 0 0 A) (F0 m 2 ls []) := by
  obtain ⟨hx, hb, hml, hown, hts, hr, hlk⟩ := id C
  obtain ⟨hK, hX, hA⟩ := id K
  unfold b_X9_begin_2 at hf
  refine lv_iload_n hx hb dX9_begin_2 rfl (lv_at hl 1 rfl) ?_
  refine lv_bipush (v := (36 : Int32)) hx hb dX9_begin_3 (by decide) ?_
  refine lv_icmp_ge (tgt := 21) hx hb dX9_begin_5 (by decide) (fun hc => ?_) (fun hc => ?_)
  · have hf := (if_pos hc).symm.trans hf
    refine lv_iconst (v := (0 : Int32)) hx hb dX9_begin_21 (by decide) ?_
    refine lv_istore_n (lv' := [(1, .int (0 : Int32)), (0, .ref a_S)]) hx hb dX9_begin_22 rfl hl (by decide) rfl (fun ls hl => ?_)
    exact qf_X9_begin_23 C K a_told a_told_house a_told_free a_told_stuffed a_told_after a_told_weight a_told_need a_S a_S_cells a_laws told_gloves told_matters told_pride told_coins told_free told_stuffed o_S_cells  fu S_cells (0 : Int32) _ _ _ hf hw (lv_sub hl [1, 0] rfl)
  · have hf := (if_neg hc).symm.trans hf
    refine lv_aload_n hx hb dX9_begin_8 rfl (lv_at hl 0 rfl) ?_
    refine va_get (ci := 9) (v := .ref a_S_cells) (C := RX9) (T := TX9) (N := 3) hx hb hts in_X9_begin_X9 hown hK hw.1 3 rfl rfl 0 (by decide) (hts _ lk_X9_begin_0) (fun _ h9 => h9) rfl dX9_begin_9 ?_
    refine lv_iload_n hx hb dX9_begin_12 rfl (lv_at hl 1 rfl) ?_
    refine lv_iconst (v := (0 : Int32)) hx hb dX9_begin_13 (by decide) ?_
    obtain ⟨hc_1, hf⟩ := gd_some hf
    obtain ⟨S_cells_2, e_S_cells_2, hf⟩ := bnd_some hf
    refine va_iast hx hb hK hw.1 hw.2.1 hw.2.2 4 0 rfl rfl (inB_in hc_1) dX9_begin_14 (fun H locs hP hD hS => ?_)
    have hw : Wo D A s [(oX5 a_told (.int told_gloves) (.int told_matters) (.int told_pride) (.int told_coins) (.ref a_told_house) (.ref a_told_free) (.ref a_told_stuffed) (.ref a_told_after) (.ref a_told_weight) (.ref a_told_need)), (a_told_free, .inl (cI, 6, .inl told_free)), (a_told_stuffed, .inl (cI, 6, .inl told_stuffed)), (oX9 a_S (.ref a_S_cells) (.ref a_told) (.ref a_laws)), (a_S_cells, .inl (cI, 69, .inl S_cells_2))] H locs := by rw [e_S_cells_2]; exact ⟨hP, hD, hS⟩
    obtain ⟨v1_3, e_v1_3, hf⟩ := bnd_some hf
    refine lv_iinc (v := v1_3) (lv' := [(1, .int v1_3), (0, .ref a_S)]) hx hb dX9_begin_15 hl (k := 1) rfl (by rw [e_v1_3]; rfl) (by decide) rfl (fun ls hl => ?_)
    refine lv_goto (tgt := 2) hx hb dX9_begin_18 (by decide) ?_
    exact hk2 S_cells_2 v1_3 _ _ _ hf hw (lv_sub hl [1, 0] rfl)
theorem qf_X9_begin_2 {p : Program} {l : Launch} {e : Env} {s : State} {m : MethodId} {args : Array Value} {below : List Frame} {meth : Method} {c : Code} {sx : List sx_T} {D : va_G} {cI cZ cO : ClassId} {A : Nat → Prop} (C : Cx p s m args meth c RX9 wsX9_begin cX9_begin 2 none) (K : Kx sx D (tyL cI cZ cO) A s) (a_told : Nat) (a_told_house : Nat) (a_told_free : Nat) (a_told_stuffed : Nat) (a_told_after : Nat) (a_told_weight : Nat) (a_told_need : Nat) (a_S : Nat) (a_S_cells : Nat) (a_laws : Nat) (told_gloves : Int32) (told_matters : Int32) (told_pride : Int32) (told_coins : Int32) (told_free : Nat → Int32) (told_stuffed : Nat → Int32) (o_S_cells : Nat → Int32)    (n : Nat) : ∀ (S_cells : Nat → Int32) (v1 : Int32) (H : Heap) (locs : List Loc) (ls : Array Slot), f_X9_begin_2 told_pride told_coins told_free told_stuffed  n S_cells v1 = some o_S_cells → Wo D A s [(oX5 a_told (.int told_gloves) (.int told_matters) (.int told_pride) (.int told_coins) (.ref a_told_house) (.ref a_told_free) (.ref a_told_stuffed) (.ref a_told_after) (.ref a_told_weight) (.ref a_told_need)), (a_told_free, .inl (cI, 6, .inl told_free)), (a_told_stuffed, .inl (cI, 6, .inl told_stuffed)), (oX9 a_S (.ref a_S_cells) (.ref a_told) (.ref a_laws)), (a_S_cells, .inl (cI, 69, .inl S_cells))] H locs → lv_has ls 2 [(0, .ref a_S), (1, .int v1)] → W p l e rm_X9_begin s m args below meth c H locs 0 0 (MQ below (QcV D A [(oX5 a_told (.int told_gloves) (.int told_matters) (.int told_pride) (.int told_coins) (.ref a_told_house) (.ref a_told_free) (.ref a_told_stuffed) (.ref a_told_after) (.ref a_told_weight) (.ref a_told_need)), (a_told_free, .inl (cI, 6, .inl told_free)), (a_told_stuffed, .inl (cI, 6, .inl told_stuffed)), (oX9 a_S (.ref a_S_cells) (.ref a_told) (.ref a_laws)), (a_S_cells, .inl (cI, 69, .inl o_S_cells))]) args s 0 0 A) (F0 m 2 ls []) := by
  induction n with
  | zero =>
    intro S_cells v1 H locs ls hf
    have h9 : (none : Option ((Nat → Int32))) = some o_S_cells := hf
    cases h9
  | succ n ih =>
    intro S_cells v1 H locs ls hf hw hl
    exact q_X9_begin_2 C K a_told a_told_house a_told_free a_told_stuffed a_told_after a_told_weight a_told_need a_S a_S_cells a_laws told_gloves told_matters told_pride told_coins told_free told_stuffed o_S_cells  (f_X9_begin_2 told_pride told_coins told_free told_stuffed  n) ih S_cells v1 hf hw hl
set_option maxHeartbeats 4000000 in
set_option maxRecDepth 100000 in
theorem q_X9_begin_0 {p : Program} {l : Launch} {e : Env} {s : State} {m : MethodId} {args : Array Value} {below : List Frame} {meth : Method} {c : Code} {sx : List sx_T} {D : va_G} {cI cZ cO : ClassId} {A : Nat → Prop} (C : Cx p s m args meth c RX9 wsX9_begin cX9_begin 2 none) (K : Kx sx D (tyL cI cZ cO) A s) (a_told : Nat) (a_told_house : Nat) (a_told_free : Nat) (a_told_stuffed : Nat) (a_told_after : Nat) (a_told_weight : Nat) (a_told_need : Nat) (a_S : Nat) (a_S_cells : Nat) (a_laws : Nat) (told_gloves : Int32) (told_matters : Int32) (told_pride : Int32) (told_coins : Int32) (told_free : Nat → Int32) (told_stuffed : Nat → Int32) (o_S_cells : Nat → Int32)    (S_cells : Nat → Int32) {H : Heap} {locs : List Loc} {ls : Array Slot} (hf : b_X9_begin_0 told_pride told_coins told_free told_stuffed  S_cells = some o_S_cells) (hw : Wo D A s [(oX5 a_told (.int told_gloves) (.int told_matters) (.int told_pride) (.int told_coins) (.ref a_told_house) (.ref a_told_free) (.ref a_told_stuffed) (.ref a_told_after) (.ref a_told_weight) (.ref a_told_need)), (a_told_free, .inl (cI, 6, .inl told_free)), (a_told_stuffed, .inl (cI, 6, .inl told_stuffed)), (oX9 a_S (.ref a_S_cells) (.ref a_told) (.ref a_laws)), (a_S_cells, .inl (cI, 69, .inl S_cells))] H locs) (hl : lv_has ls 2 [(0, .ref a_S)]) : W p l e rm_X9_begin s m args below meth c H locs 0 0 (MQ below (QcV D A [(oX5 a_told (.int told_gloves) (.int told_matters) (.int told_pride) (.int told_coins) (.ref a_told_house) (.ref a_told_free) (.ref a_told_stuffed) (.ref a_told_after) (.ref a_told_weight) (.ref a_told_need)), (a_told_free, .inl (cI, 6, .inl told_free)), (a_told_stuffed, .inl (cI, 6, .inl told_stuffed)), (oX9 a_S (.ref a_S_cells) (.ref a_told) (.ref a_laws)), (a_S_cells, .inl (cI, 69, .inl o_S_cells))]) args s 0 0 A) (F0 m 0 ls []) := by
  obtain ⟨hx, hb, hml, hown, hts, hr, hlk⟩ := id C
  obtain ⟨hK, hX, hA⟩ := id K
  unfold b_X9_begin_0 at hf
  refine lv_iconst (v := (0 : Int32)) hx hb dX9_begin_0 (by decide) ?_
  refine lv_istore_n (lv' := [(1, .int (0 : Int32)), (0, .ref a_S)]) hx hb dX9_begin_1 rfl hl (by decide) rfl (fun ls hl => ?_)
  exact qf_X9_begin_2 C K a_told a_told_house a_told_free a_told_stuffed a_told_after a_told_weight a_told_need a_S a_S_cells a_laws told_gloves told_matters told_pride told_coins told_free told_stuffed o_S_cells  fu S_cells (0 : Int32) _ _ _ hf hw (lv_sub hl [1, 0] rfl)
set_option maxHeartbeats 4000000 in
set_option maxRecDepth 100000 in
theorem k_X9_begin {l : Launch} {sx : List sx_T} {D : va_G} {cI cZ cO : ClassId} (a_told : Nat) (a_told_house : Nat) (a_told_free : Nat) (a_told_stuffed : Nat) (a_told_after : Nat) (a_told_weight : Nat) (a_told_need : Nat) (a_S : Nat) (a_S_cells : Nat) (a_laws : Nat) (told_gloves : Int32) (told_matters : Int32) (told_pride : Int32) (told_coins : Int32) (told_free : Nat → Int32) (told_stuffed : Nat → Int32) (o_S_cells : Nat → Int32) (S_cells : Nat → Int32) (hF : f_X9_begin told_pride told_coins told_free told_stuffed S_cells = some o_S_cells) : CtV l yX9_begin wsX9_begin rm_X9_begin sx D (tyL cI cZ cO) [.ref a_S] [(oX5 a_told (.int told_gloves) (.int told_matters) (.int told_pride) (.int told_coins) (.ref a_told_house) (.ref a_told_free) (.ref a_told_stuffed) (.ref a_told_after) (.ref a_told_weight) (.ref a_told_need)), (a_told_free, .inl (cI, 6, .inl told_free)), (a_told_stuffed, .inl (cI, 6, .inl told_stuffed)), (oX9 a_S (.ref a_S_cells) (.ref a_told) (.ref a_laws)), (a_S_cells, .inl (cI, 69, .inl S_cells))] [(oX5 a_told (.int told_gloves) (.int told_matters) (.int told_pride) (.int told_coins) (.ref a_told_house) (.ref a_told_free) (.ref a_told_stuffed) (.ref a_told_after) (.ref a_told_weight) (.ref a_told_need)), (a_told_free, .inl (cI, 6, .inl told_free)), (a_told_stuffed, .inl (cI, 6, .inl told_stuffed)), (oX9 a_S (.ref a_S_cells) (.ref a_told) (.ref a_laws)), (a_S_cells, .inl (cI, 69, .inl o_S_cells))] := by
  refine ctV_of (cc := cX9_begin) (ret := none) (maxL := 2) (by decide) rfl (Nat.le_of_ble_eq_true rfl) ?_
  intro p e s m below meth c A ls C K hw hl
  exact q_X9_begin_0 C K a_told a_told_house a_told_free a_told_stuffed a_told_after a_told_weight a_told_need a_S a_S_cells a_laws told_gloves told_matters told_pride told_coins told_free told_stuffed o_S_cells S_cells hF hw (lv_sub hl [0] rfl)
abbrev rm_X9_pride : Room := { frames := 0, cells := 0, slots := 0, locals := 0 }
theorem in_X9_pride_X9 : ∀ w ∈ u_ws RX9 TX9 3, w ∈ wsX9_pride := fun w h => List.mem_cons_of_mem _ (bi_wsX90 w h)
theorem lk_X9_pride_0 : Cond.fieldLink RX9 11 "GloveHouses$State" "cells" "[I" ∈ wsX9_pride := List.mem_cons_of_mem _ (bi_wsL_law0_r5 _ (List.mem_of_getElem? (i := 11) rfl))
set_option maxHeartbeats 4000000 in
set_option maxRecDepth 100000 in
theorem q_X9_pride_0 {p : Program} {l : Launch} {e : Env} {s : State} {m : MethodId} {args : Array Value} {below : List Frame} {meth : Method} {c : Code} {sx : List sx_T} {D : va_G} {cI cZ cO : ClassId} {A : Nat → Prop} (C : Cx p s m args meth c RX9 wsX9_pride cX9_pride 1 (some .int)) (K : Kx sx D (tyL cI cZ cO) A s) (a_S : Nat) (a_S_cells : Nat) (a_told : Nat) (a_laws : Nat) (S_cells : Nat → Int32) (r0 : Int32)     {H : Heap} {locs : List Loc} {ls : Array Slot} (hf : b_X9_pride_0 S_cells   = some r0) (hw : Wo D A s [(oX9 a_S (.ref a_S_cells) (.ref a_told) (.ref a_laws)), (a_S_cells, .inl (cI, 69, .inl S_cells))] H locs) (hl : lv_has ls 1 [(0, .ref a_S)]) : W p l e rm_X9_pride s m args below meth c H locs 0 0 (MQ below (QcI D A r0 [(oX9 a_S (.ref a_S_cells) (.ref a_told) (.ref a_laws)), (a_S_cells, .inl (cI, 69, .inl S_cells))]) args s 0 0 A) (F0 m 0 ls []) := by
  obtain ⟨hx, hb, hml, hown, hts, hr, hlk⟩ := id C
  obtain ⟨hK, hX, hA⟩ := id K
  unfold b_X9_pride_0 at hf
  refine lv_aload_n hx hb dX9_pride_0 rfl (lv_at hl 0 rfl) ?_
  refine va_get (ci := 9) (v := .ref a_S_cells) (C := RX9) (T := TX9) (N := 3) hx hb hts in_X9_pride_X9 hown hK hw.1 0 rfl rfl 0 (by decide) (hts _ lk_X9_pride_0) (fun _ h9 => h9) rfl dX9_pride_1 ?_
  refine lv_bipush (v := (66 : Int32)) hx hb dX9_pride_4 (by decide) ?_
  obtain ⟨hc_1, hf⟩ := gd_some hf
  refine va_iald hx hb hK hw.1 1 0 rfl rfl (inB_in hc_1) dX9_pride_6 ?_
  cases hf
  exact retI C hw dX9_pride_7 rfl
set_option maxHeartbeats 4000000 in
set_option maxRecDepth 100000 in
theorem k_X9_pride {l : Launch} {sx : List sx_T} {D : va_G} {cI cZ cO : ClassId} (a_S : Nat) (a_S_cells : Nat) (a_told : Nat) (a_laws : Nat) (S_cells : Nat → Int32) (r0 : Int32) (hF : f_X9_pride S_cells = some r0) : CtI l yX9_pride wsX9_pride rm_X9_pride sx D (tyL cI cZ cO) [.ref a_S] [(oX9 a_S (.ref a_S_cells) (.ref a_told) (.ref a_laws)), (a_S_cells, .inl (cI, 69, .inl S_cells))] r0 [(oX9 a_S (.ref a_S_cells) (.ref a_told) (.ref a_laws)), (a_S_cells, .inl (cI, 69, .inl S_cells))] := by
  refine ctI_of (cc := cX9_pride) (ret := (some .int)) (maxL := 1) (by decide) rfl (Nat.le_of_ble_eq_true rfl) ?_
  intro p e s m below meth c A ls C K hw hl
  exact q_X9_pride_0 C K a_S a_S_cells a_told a_laws S_cells r0  hF hw (lv_sub hl [0] rfl)
abbrev rm_X9_coins : Room := { frames := 0, cells := 0, slots := 0, locals := 0 }
theorem in_X9_coins_X9 : ∀ w ∈ u_ws RX9 TX9 3, w ∈ wsX9_coins := fun w h => List.mem_cons_of_mem _ (bi_wsX90 w h)
theorem lk_X9_coins_0 : Cond.fieldLink RX9 11 "GloveHouses$State" "cells" "[I" ∈ wsX9_coins := List.mem_cons_of_mem _ (bi_wsL_law0_r5 _ (List.mem_of_getElem? (i := 11) rfl))
set_option maxHeartbeats 4000000 in
set_option maxRecDepth 100000 in
theorem q_X9_coins_0 {p : Program} {l : Launch} {e : Env} {s : State} {m : MethodId} {args : Array Value} {below : List Frame} {meth : Method} {c : Code} {sx : List sx_T} {D : va_G} {cI cZ cO : ClassId} {A : Nat → Prop} (C : Cx p s m args meth c RX9 wsX9_coins cX9_coins 1 (some .int)) (K : Kx sx D (tyL cI cZ cO) A s) (a_S : Nat) (a_S_cells : Nat) (a_told : Nat) (a_laws : Nat) (S_cells : Nat → Int32) (r0 : Int32)     {H : Heap} {locs : List Loc} {ls : Array Slot} (hf : b_X9_coins_0 S_cells   = some r0) (hw : Wo D A s [(oX9 a_S (.ref a_S_cells) (.ref a_told) (.ref a_laws)), (a_S_cells, .inl (cI, 69, .inl S_cells))] H locs) (hl : lv_has ls 1 [(0, .ref a_S)]) : W p l e rm_X9_coins s m args below meth c H locs 0 0 (MQ below (QcI D A r0 [(oX9 a_S (.ref a_S_cells) (.ref a_told) (.ref a_laws)), (a_S_cells, .inl (cI, 69, .inl S_cells))]) args s 0 0 A) (F0 m 0 ls []) := by
  obtain ⟨hx, hb, hml, hown, hts, hr, hlk⟩ := id C
  obtain ⟨hK, hX, hA⟩ := id K
  unfold b_X9_coins_0 at hf
  refine lv_aload_n hx hb dX9_coins_0 rfl (lv_at hl 0 rfl) ?_
  refine va_get (ci := 9) (v := .ref a_S_cells) (C := RX9) (T := TX9) (N := 3) hx hb hts in_X9_coins_X9 hown hK hw.1 0 rfl rfl 0 (by decide) (hts _ lk_X9_coins_0) (fun _ h9 => h9) rfl dX9_coins_1 ?_
  refine lv_bipush (v := (67 : Int32)) hx hb dX9_coins_4 (by decide) ?_
  obtain ⟨hc_1, hf⟩ := gd_some hf
  refine va_iald hx hb hK hw.1 1 0 rfl rfl (inB_in hc_1) dX9_coins_6 ?_
  cases hf
  exact retI C hw dX9_coins_7 rfl
set_option maxHeartbeats 4000000 in
set_option maxRecDepth 100000 in
theorem k_X9_coins {l : Launch} {sx : List sx_T} {D : va_G} {cI cZ cO : ClassId} (a_S : Nat) (a_S_cells : Nat) (a_told : Nat) (a_laws : Nat) (S_cells : Nat → Int32) (r0 : Int32) (hF : f_X9_coins S_cells = some r0) : CtI l yX9_coins wsX9_coins rm_X9_coins sx D (tyL cI cZ cO) [.ref a_S] [(oX9 a_S (.ref a_S_cells) (.ref a_told) (.ref a_laws)), (a_S_cells, .inl (cI, 69, .inl S_cells))] r0 [(oX9 a_S (.ref a_S_cells) (.ref a_told) (.ref a_laws)), (a_S_cells, .inl (cI, 69, .inl S_cells))] := by
  refine ctI_of (cc := cX9_coins) (ret := (some .int)) (maxL := 1) (by decide) rfl (Nat.le_of_ble_eq_true rfl) ?_
  intro p e s m below meth c A ls C K hw hl
  exact q_X9_coins_0 C K a_S a_S_cells a_told a_laws S_cells r0  hF hw (lv_sub hl [0] rfl)
abbrev rm_X9_free : Room := { frames := 0, cells := 0, slots := 0, locals := 0 }
theorem in_X9_free_X9 : ∀ w ∈ u_ws RX9 TX9 3, w ∈ wsX9_free := fun w h => List.mem_cons_of_mem _ (bi_wsX90 w h)
theorem lk_X9_free_0 : Cond.fieldLink RX9 11 "GloveHouses$State" "cells" "[I" ∈ wsX9_free := List.mem_cons_of_mem _ (bi_wsL_law0_r5 _ (List.mem_of_getElem? (i := 11) rfl))
set_option maxHeartbeats 4000000 in
set_option maxRecDepth 100000 in
theorem q_X9_free_0 {p : Program} {l : Launch} {e : Env} {s : State} {m : MethodId} {args : Array Value} {below : List Frame} {meth : Method} {c : Code} {sx : List sx_T} {D : va_G} {cI cZ cO : ClassId} {A : Nat → Prop} (C : Cx p s m args meth c RX9 wsX9_free cX9_free 2 (some .int)) (K : Kx sx D (tyL cI cZ cO) A s) (a_S : Nat) (a_S_cells : Nat) (a_told : Nat) (a_laws : Nat) (S_cells : Nat → Int32) (r0 : Int32)    (v1 : Int32) {H : Heap} {locs : List Loc} {ls : Array Slot} (hf : b_X9_free_0 S_cells  v1 = some r0) (hw : Wo D A s [(oX9 a_S (.ref a_S_cells) (.ref a_told) (.ref a_laws)), (a_S_cells, .inl (cI, 69, .inl S_cells))] H locs) (hl : lv_has ls 2 [(0, .ref a_S), (1, .int v1)]) : W p l e rm_X9_free s m args below meth c H locs 0 0 (MQ below (QcI D A r0 [(oX9 a_S (.ref a_S_cells) (.ref a_told) (.ref a_laws)), (a_S_cells, .inl (cI, 69, .inl S_cells))]) args s 0 0 A) (F0 m 0 ls []) := by
  obtain ⟨hx, hb, hml, hown, hts, hr, hlk⟩ := id C
  obtain ⟨hK, hX, hA⟩ := id K
  unfold b_X9_free_0 at hf
  refine lv_aload_n hx hb dX9_free_0 rfl (lv_at hl 0 rfl) ?_
  refine va_get (ci := 9) (v := .ref a_S_cells) (C := RX9) (T := TX9) (N := 3) hx hb hts in_X9_free_X9 hown hK hw.1 0 rfl rfl 0 (by decide) (hts _ lk_X9_free_0) (fun _ h9 => h9) rfl dX9_free_1 ?_
  refine lv_bipush (v := (36 : Int32)) hx hb dX9_free_4 (by decide) ?_
  refine lv_iload_n hx hb dX9_free_6 rfl (lv_at hl 1 rfl) ?_
  refine lv_iadd hx hb dX9_free_7 ?_
  obtain ⟨hc_1, hf⟩ := gd_some hf
  refine va_iald hx hb hK hw.1 1 0 rfl rfl (inB_in hc_1) dX9_free_8 ?_
  cases hf
  exact retI C hw dX9_free_9 rfl
set_option maxHeartbeats 4000000 in
set_option maxRecDepth 100000 in
theorem k_X9_free {l : Launch} {sx : List sx_T} {D : va_G} {cI cZ cO : ClassId} (a_S : Nat) (a_S_cells : Nat) (a_told : Nat) (a_laws : Nat) (S_cells : Nat → Int32) (r0 : Int32) (p1 : Int32) (hF : f_X9_free S_cells p1 = some r0) : CtI l yX9_free wsX9_free rm_X9_free sx D (tyL cI cZ cO) [.ref a_S, .int p1] [(oX9 a_S (.ref a_S_cells) (.ref a_told) (.ref a_laws)), (a_S_cells, .inl (cI, 69, .inl S_cells))] r0 [(oX9 a_S (.ref a_S_cells) (.ref a_told) (.ref a_laws)), (a_S_cells, .inl (cI, 69, .inl S_cells))] := by
  refine ctI_of (cc := cX9_free) (ret := (some .int)) (maxL := 2) (by decide) rfl (Nat.le_of_ble_eq_true rfl) ?_
  intro p e s m below meth c A ls C K hw hl
  exact q_X9_free_0 C K a_S a_S_cells a_told a_laws S_cells r0 p1 hF hw (lv_sub hl [0, 1] rfl)
abbrev rm_X9_stuffed : Room := { frames := 0, cells := 0, slots := 0, locals := 0 }
theorem in_X9_stuffed_X9 : ∀ w ∈ u_ws RX9 TX9 3, w ∈ wsX9_stuffed := fun w h => List.mem_cons_of_mem _ (bi_wsX90 w h)
theorem lk_X9_stuffed_0 : Cond.fieldLink RX9 11 "GloveHouses$State" "cells" "[I" ∈ wsX9_stuffed := List.mem_cons_of_mem _ (bi_wsL_law0_r5 _ (List.mem_of_getElem? (i := 11) rfl))
set_option maxHeartbeats 4000000 in
set_option maxRecDepth 100000 in
theorem q_X9_stuffed_0 {p : Program} {l : Launch} {e : Env} {s : State} {m : MethodId} {args : Array Value} {below : List Frame} {meth : Method} {c : Code} {sx : List sx_T} {D : va_G} {cI cZ cO : ClassId} {A : Nat → Prop} (C : Cx p s m args meth c RX9 wsX9_stuffed cX9_stuffed 2 (some .int)) (K : Kx sx D (tyL cI cZ cO) A s) (a_S : Nat) (a_S_cells : Nat) (a_told : Nat) (a_laws : Nat) (S_cells : Nat → Int32) (r0 : Int32)    (v1 : Int32) {H : Heap} {locs : List Loc} {ls : Array Slot} (hf : b_X9_stuffed_0 S_cells  v1 = some r0) (hw : Wo D A s [(oX9 a_S (.ref a_S_cells) (.ref a_told) (.ref a_laws)), (a_S_cells, .inl (cI, 69, .inl S_cells))] H locs) (hl : lv_has ls 2 [(0, .ref a_S), (1, .int v1)]) : W p l e rm_X9_stuffed s m args below meth c H locs 0 0 (MQ below (QcI D A r0 [(oX9 a_S (.ref a_S_cells) (.ref a_told) (.ref a_laws)), (a_S_cells, .inl (cI, 69, .inl S_cells))]) args s 0 0 A) (F0 m 0 ls []) := by
  obtain ⟨hx, hb, hml, hown, hts, hr, hlk⟩ := id C
  obtain ⟨hK, hX, hA⟩ := id K
  unfold b_X9_stuffed_0 at hf
  refine lv_aload_n hx hb dX9_stuffed_0 rfl (lv_at hl 0 rfl) ?_
  refine va_get (ci := 9) (v := .ref a_S_cells) (C := RX9) (T := TX9) (N := 3) hx hb hts in_X9_stuffed_X9 hown hK hw.1 0 rfl rfl 0 (by decide) (hts _ lk_X9_stuffed_0) (fun _ h9 => h9) rfl dX9_stuffed_1 ?_
  refine lv_bipush (v := (42 : Int32)) hx hb dX9_stuffed_4 (by decide) ?_
  refine lv_iload_n hx hb dX9_stuffed_6 rfl (lv_at hl 1 rfl) ?_
  refine lv_iadd hx hb dX9_stuffed_7 ?_
  obtain ⟨hc_1, hf⟩ := gd_some hf
  refine va_iald hx hb hK hw.1 1 0 rfl rfl (inB_in hc_1) dX9_stuffed_8 ?_
  cases hf
  exact retI C hw dX9_stuffed_9 rfl
set_option maxHeartbeats 4000000 in
set_option maxRecDepth 100000 in
theorem k_X9_stuffed {l : Launch} {sx : List sx_T} {D : va_G} {cI cZ cO : ClassId} (a_S : Nat) (a_S_cells : Nat) (a_told : Nat) (a_laws : Nat) (S_cells : Nat → Int32) (r0 : Int32) (p1 : Int32) (hF : f_X9_stuffed S_cells p1 = some r0) : CtI l yX9_stuffed wsX9_stuffed rm_X9_stuffed sx D (tyL cI cZ cO) [.ref a_S, .int p1] [(oX9 a_S (.ref a_S_cells) (.ref a_told) (.ref a_laws)), (a_S_cells, .inl (cI, 69, .inl S_cells))] r0 [(oX9 a_S (.ref a_S_cells) (.ref a_told) (.ref a_laws)), (a_S_cells, .inl (cI, 69, .inl S_cells))] := by
  refine ctI_of (cc := cX9_stuffed) (ret := (some .int)) (maxL := 2) (by decide) rfl (Nat.le_of_ble_eq_true rfl) ?_
  intro p e s m below meth c A ls C K hw hl
  exact q_X9_stuffed_0 C K a_S a_S_cells a_told a_laws S_cells r0 p1 hF hw (lv_sub hl [0, 1] rfl)
abbrev rm_X9_hasMet : Room := { frames := 0, cells := 0, slots := 0, locals := 0 }
theorem in_X9_hasMet_X9 : ∀ w ∈ u_ws RX9 TX9 3, w ∈ wsX9_hasMet := fun w h => List.mem_cons_of_mem _ (bi_wsX90 w h)
theorem lk_X9_hasMet_0 : Cond.fieldLink RX9 11 "GloveHouses$State" "cells" "[I" ∈ wsX9_hasMet := List.mem_cons_of_mem _ (bi_wsL_law0_r5 _ (List.mem_of_getElem? (i := 11) rfl))
set_option maxHeartbeats 4000000 in
set_option maxRecDepth 100000 in
theorem q_X9_hasMet_0 {p : Program} {l : Launch} {e : Env} {s : State} {m : MethodId} {args : Array Value} {below : List Frame} {meth : Method} {c : Code} {sx : List sx_T} {D : va_G} {cI cZ cO : ClassId} {A : Nat → Prop} (C : Cx p s m args meth c RX9 wsX9_hasMet cX9_hasMet 2 (some .boolean)) (K : Kx sx D (tyL cI cZ cO) A s) (a_S : Nat) (a_S_cells : Nat) (a_told : Nat) (a_laws : Nat) (S_cells : Nat → Int32) (r0 : Int32)    (v1 : Int32) {H : Heap} {locs : List Loc} {ls : Array Slot} (hf : b_X9_hasMet_0 S_cells  v1 = some r0) (hw : Wo D A s [(oX9 a_S (.ref a_S_cells) (.ref a_told) (.ref a_laws)), (a_S_cells, .inl (cI, 69, .inl S_cells))] H locs) (hl : lv_has ls 2 [(0, .ref a_S), (1, .int v1)]) : W p l e rm_X9_hasMet s m args below meth c H locs 0 0 (MQ below (QcI D A r0 [(oX9 a_S (.ref a_S_cells) (.ref a_told) (.ref a_laws)), (a_S_cells, .inl (cI, 69, .inl S_cells))]) args s 0 0 A) (F0 m 0 ls []) := by
  obtain ⟨hx, hb, hml, hown, hts, hr, hlk⟩ := id C
  obtain ⟨hK, hX, hA⟩ := id K
  unfold b_X9_hasMet_0 at hf
  refine lv_aload_n hx hb dX9_hasMet_0 rfl (lv_at hl 0 rfl) ?_
  refine va_get (ci := 9) (v := .ref a_S_cells) (C := RX9) (T := TX9) (N := 3) hx hb hts in_X9_hasMet_X9 hown hK hw.1 0 rfl rfl 0 (by decide) (hts _ lk_X9_hasMet_0) (fun _ h9 => h9) rfl dX9_hasMet_1 ?_
  refine lv_bipush (v := (54 : Int32)) hx hb dX9_hasMet_4 (by decide) ?_
  refine lv_iload_n hx hb dX9_hasMet_6 rfl (lv_at hl 1 rfl) ?_
  refine lv_iadd hx hb dX9_hasMet_7 ?_
  obtain ⟨hc_1, hf⟩ := gd_some hf
  refine va_iald hx hb hK hw.1 1 0 rfl rfl (inB_in hc_1) dX9_hasMet_8 ?_
  refine lv_iconst (v := (-1 : Int32)) hx hb dX9_hasMet_9 (by decide) ?_
  refine lv_icmp_eq (tgt := 17) hx hb dX9_hasMet_10 (by decide) (fun hc => ?_) (fun hc => ?_)
  · have hf := (if_pos hc).symm.trans hf
    refine lv_iconst (v := (0 : Int32)) hx hb dX9_hasMet_17 (by decide) ?_
    cases hf
    exact retZ C hw dX9_hasMet_18 (by decide) rfl
  · have hf := (if_neg hc).symm.trans hf
    refine lv_iconst (v := (1 : Int32)) hx hb dX9_hasMet_13 (by decide) ?_
    refine lv_goto (tgt := 18) hx hb dX9_hasMet_14 (by decide) ?_
    cases hf
    exact retZ C hw dX9_hasMet_18 (by decide) rfl
set_option maxHeartbeats 4000000 in
set_option maxRecDepth 100000 in
theorem k_X9_hasMet {l : Launch} {sx : List sx_T} {D : va_G} {cI cZ cO : ClassId} (a_S : Nat) (a_S_cells : Nat) (a_told : Nat) (a_laws : Nat) (S_cells : Nat → Int32) (r0 : Int32) (p1 : Int32) (hF : f_X9_hasMet S_cells p1 = some r0) : CtI l yX9_hasMet wsX9_hasMet rm_X9_hasMet sx D (tyL cI cZ cO) [.ref a_S, .int p1] [(oX9 a_S (.ref a_S_cells) (.ref a_told) (.ref a_laws)), (a_S_cells, .inl (cI, 69, .inl S_cells))] r0 [(oX9 a_S (.ref a_S_cells) (.ref a_told) (.ref a_laws)), (a_S_cells, .inl (cI, 69, .inl S_cells))] := by
  refine ctI_of (cc := cX9_hasMet) (ret := (some .boolean)) (maxL := 2) (by decide) rfl (Nat.le_of_ble_eq_true rfl) ?_
  intro p e s m below meth c A ls C K hw hl
  exact q_X9_hasMet_0 C K a_S a_S_cells a_told a_laws S_cells r0 p1 hF hw (lv_sub hl [0, 1] rfl)
abbrev rm_X9_knows : Room := { frames := 0, cells := 0, slots := 0, locals := 0 }
theorem in_X9_knows_X9 : ∀ w ∈ u_ws RX9 TX9 3, w ∈ wsX9_knows := fun w h => List.mem_cons_of_mem _ (bi_wsX90 w h)
theorem lk_X9_knows_0 : Cond.fieldLink RX9 11 "GloveHouses$State" "cells" "[I" ∈ wsX9_knows := List.mem_cons_of_mem _ (bi_wsL_law0_r5 _ (List.mem_of_getElem? (i := 11) rfl))
set_option maxHeartbeats 4000000 in
set_option maxRecDepth 100000 in
theorem q_X9_knows_0 {p : Program} {l : Launch} {e : Env} {s : State} {m : MethodId} {args : Array Value} {below : List Frame} {meth : Method} {c : Code} {sx : List sx_T} {D : va_G} {cI cZ cO : ClassId} {A : Nat → Prop} (C : Cx p s m args meth c RX9 wsX9_knows cX9_knows 2 (some .int)) (K : Kx sx D (tyL cI cZ cO) A s) (a_S : Nat) (a_S_cells : Nat) (a_told : Nat) (a_laws : Nat) (S_cells : Nat → Int32) (r0 : Int32)    (v1 : Int32) {H : Heap} {locs : List Loc} {ls : Array Slot} (hf : b_X9_knows_0 S_cells  v1 = some r0) (hw : Wo D A s [(oX9 a_S (.ref a_S_cells) (.ref a_told) (.ref a_laws)), (a_S_cells, .inl (cI, 69, .inl S_cells))] H locs) (hl : lv_has ls 2 [(0, .ref a_S), (1, .int v1)]) : W p l e rm_X9_knows s m args below meth c H locs 0 0 (MQ below (QcI D A r0 [(oX9 a_S (.ref a_S_cells) (.ref a_told) (.ref a_laws)), (a_S_cells, .inl (cI, 69, .inl S_cells))]) args s 0 0 A) (F0 m 0 ls []) := by
  obtain ⟨hx, hb, hml, hown, hts, hr, hlk⟩ := id C
  obtain ⟨hK, hX, hA⟩ := id K
  unfold b_X9_knows_0 at hf
  refine lv_aload_n hx hb dX9_knows_0 rfl (lv_at hl 0 rfl) ?_
  refine va_get (ci := 9) (v := .ref a_S_cells) (C := RX9) (T := TX9) (N := 3) hx hb hts in_X9_knows_X9 hown hK hw.1 0 rfl rfl 0 (by decide) (hts _ lk_X9_knows_0) (fun _ h9 => h9) rfl dX9_knows_1 ?_
  refine lv_bipush (v := (48 : Int32)) hx hb dX9_knows_4 (by decide) ?_
  refine lv_iload_n hx hb dX9_knows_6 rfl (lv_at hl 1 rfl) ?_
  refine lv_iadd hx hb dX9_knows_7 ?_
  obtain ⟨hc_1, hf⟩ := gd_some hf
  refine va_iald hx hb hK hw.1 1 0 rfl rfl (inB_in hc_1) dX9_knows_8 ?_
  cases hf
  exact retI C hw dX9_knows_9 rfl
set_option maxHeartbeats 4000000 in
set_option maxRecDepth 100000 in
theorem k_X9_knows {l : Launch} {sx : List sx_T} {D : va_G} {cI cZ cO : ClassId} (a_S : Nat) (a_S_cells : Nat) (a_told : Nat) (a_laws : Nat) (S_cells : Nat → Int32) (r0 : Int32) (p1 : Int32) (hF : f_X9_knows S_cells p1 = some r0) : CtI l yX9_knows wsX9_knows rm_X9_knows sx D (tyL cI cZ cO) [.ref a_S, .int p1] [(oX9 a_S (.ref a_S_cells) (.ref a_told) (.ref a_laws)), (a_S_cells, .inl (cI, 69, .inl S_cells))] r0 [(oX9 a_S (.ref a_S_cells) (.ref a_told) (.ref a_laws)), (a_S_cells, .inl (cI, 69, .inl S_cells))] := by
  refine ctI_of (cc := cX9_knows) (ret := (some .int)) (maxL := 2) (by decide) rfl (Nat.le_of_ble_eq_true rfl) ?_
  intro p e s m below meth c A ls C K hw hl
  exact q_X9_knows_0 C K a_S a_S_cells a_told a_laws S_cells r0 p1 hF hw (lv_sub hl [0, 1] rfl)
abbrev rm_X9_signers : Room := { frames := 0, cells := 0, slots := 0, locals := 0 }
theorem in_X9_signers_X9 : ∀ w ∈ u_ws RX9 TX9 3, w ∈ wsX9_signers := fun w h => List.mem_cons_of_mem _ (bi_wsX90 w h)
theorem lk_X9_signers_0 : Cond.fieldLink RX9 11 "GloveHouses$State" "cells" "[I" ∈ wsX9_signers := List.mem_cons_of_mem _ (bi_wsL_law0_r5 _ (List.mem_of_getElem? (i := 11) rfl))
set_option maxHeartbeats 4000000 in
set_option maxRecDepth 100000 in
theorem q_X9_signers_0 {p : Program} {l : Launch} {e : Env} {s : State} {m : MethodId} {args : Array Value} {below : List Frame} {meth : Method} {c : Code} {sx : List sx_T} {D : va_G} {cI cZ cO : ClassId} {A : Nat → Prop} (C : Cx p s m args meth c RX9 wsX9_signers cX9_signers 2 (some .int)) (K : Kx sx D (tyL cI cZ cO) A s) (a_S : Nat) (a_S_cells : Nat) (a_told : Nat) (a_laws : Nat) (S_cells : Nat → Int32) (r0 : Int32)    (v1 : Int32) {H : Heap} {locs : List Loc} {ls : Array Slot} (hf : b_X9_signers_0 S_cells  v1 = some r0) (hw : Wo D A s [(oX9 a_S (.ref a_S_cells) (.ref a_told) (.ref a_laws)), (a_S_cells, .inl (cI, 69, .inl S_cells))] H locs) (hl : lv_has ls 2 [(0, .ref a_S), (1, .int v1)]) : W p l e rm_X9_signers s m args below meth c H locs 0 0 (MQ below (QcI D A r0 [(oX9 a_S (.ref a_S_cells) (.ref a_told) (.ref a_laws)), (a_S_cells, .inl (cI, 69, .inl S_cells))]) args s 0 0 A) (F0 m 0 ls []) := by
  obtain ⟨hx, hb, hml, hown, hts, hr, hlk⟩ := id C
  obtain ⟨hK, hX, hA⟩ := id K
  unfold b_X9_signers_0 at hf
  refine lv_aload_n hx hb dX9_signers_0 rfl (lv_at hl 0 rfl) ?_
  refine va_get (ci := 9) (v := .ref a_S_cells) (C := RX9) (T := TX9) (N := 3) hx hb hts in_X9_signers_X9 hown hK hw.1 0 rfl rfl 0 (by decide) (hts _ lk_X9_signers_0) (fun _ h9 => h9) rfl dX9_signers_1 ?_
  refine lv_bipush (v := (60 : Int32)) hx hb dX9_signers_4 (by decide) ?_
  refine lv_iload_n hx hb dX9_signers_6 rfl (lv_at hl 1 rfl) ?_
  refine lv_iadd hx hb dX9_signers_7 ?_
  obtain ⟨hc_1, hf⟩ := gd_some hf
  refine va_iald hx hb hK hw.1 1 0 rfl rfl (inB_in hc_1) dX9_signers_8 ?_
  cases hf
  exact retI C hw dX9_signers_9 rfl
set_option maxHeartbeats 4000000 in
set_option maxRecDepth 100000 in
theorem k_X9_signers {l : Launch} {sx : List sx_T} {D : va_G} {cI cZ cO : ClassId} (a_S : Nat) (a_S_cells : Nat) (a_told : Nat) (a_laws : Nat) (S_cells : Nat → Int32) (r0 : Int32) (p1 : Int32) (hF : f_X9_signers S_cells p1 = some r0) : CtI l yX9_signers wsX9_signers rm_X9_signers sx D (tyL cI cZ cO) [.ref a_S, .int p1] [(oX9 a_S (.ref a_S_cells) (.ref a_told) (.ref a_laws)), (a_S_cells, .inl (cI, 69, .inl S_cells))] r0 [(oX9 a_S (.ref a_S_cells) (.ref a_told) (.ref a_laws)), (a_S_cells, .inl (cI, 69, .inl S_cells))] := by
  refine ctI_of (cc := cX9_signers) (ret := (some .int)) (maxL := 2) (by decide) rfl (Nat.le_of_ble_eq_true rfl) ?_
  intro p e s m below meth c A ls C K hw hl
  exact q_X9_signers_0 C K a_S a_S_cells a_told a_laws S_cells r0 p1 hF hw (lv_sub hl [0, 1] rfl)
abbrev rm_X9_placeOf : Room := { frames := 0, cells := 0, slots := 0, locals := 0 }
set_option maxHeartbeats 4000000 in
set_option maxRecDepth 100000 in
theorem q_X9_placeOf_0 {p : Program} {l : Launch} {e : Env} {s : State} {m : MethodId} {args : Array Value} {below : List Frame} {meth : Method} {c : Code} {sx : List sx_T} {D : va_G} {cI cZ cO : ClassId} {A : Nat → Prop} (C : Cx p s m args meth c RX9 wsX9_placeOf cX9_placeOf 2 (some .int)) (K : Kx sx D (tyL cI cZ cO) A s) (r0 : Int32)    (v0 : Int32) (v1 : Int32) {H : Heap} {locs : List Loc} {ls : Array Slot} (hf : b_X9_placeOf_0   v0 v1 = some r0) (hw : Wo D A s [] H locs) (hl : lv_has ls 2 [(0, .int v0), (1, .int v1)]) : W p l e rm_X9_placeOf s m args below meth c H locs 0 0 (MQ below (QcI D A r0 []) args s 0 0 A) (F0 m 0 ls []) := by
  obtain ⟨hx, hb, hml, hown, hts, hr, hlk⟩ := id C
  obtain ⟨hK, hX, hA⟩ := id K
  unfold b_X9_placeOf_0 at hf
  refine lv_iload_n hx hb dX9_placeOf_0 rfl (lv_at hl 0 rfl) ?_
  refine lv_iload_n hx hb dX9_placeOf_1 rfl (lv_at hl 1 rfl) ?_
  refine lv_icmp_ge (tgt := 14) hx hb dX9_placeOf_2 (by decide) (fun hc => ?_) (fun hc => ?_)
  · have hf := (if_pos hc).symm.trans hf
    refine lv_iload_n hx hb dX9_placeOf_14 rfl (lv_at hl 1 rfl) ?_
    refine lv_bipush (v := (6 : Int32)) hx hb dX9_placeOf_15 (by decide) ?_
    refine lv_imul hx hb dX9_placeOf_17 ?_
    refine lv_iload_n hx hb dX9_placeOf_18 rfl (lv_at hl 0 rfl) ?_
    refine lv_iadd hx hb dX9_placeOf_19 ?_
    cases hf
    exact retI C hw dX9_placeOf_20 rfl
  · have hf := (if_neg hc).symm.trans hf
    refine lv_iload_n hx hb dX9_placeOf_5 rfl (lv_at hl 0 rfl) ?_
    refine lv_bipush (v := (6 : Int32)) hx hb dX9_placeOf_6 (by decide) ?_
    refine lv_imul hx hb dX9_placeOf_8 ?_
    refine lv_iload_n hx hb dX9_placeOf_9 rfl (lv_at hl 1 rfl) ?_
    refine lv_iadd hx hb dX9_placeOf_10 ?_
    refine lv_goto (tgt := 20) hx hb dX9_placeOf_11 (by decide) ?_
    cases hf
    exact retI C hw dX9_placeOf_20 rfl
set_option maxHeartbeats 4000000 in
set_option maxRecDepth 100000 in
theorem k_X9_placeOf {l : Launch} {sx : List sx_T} {D : va_G} {cI cZ cO : ClassId} (r0 : Int32) (p1 : Int32) (p2 : Int32) (hF : f_X9_placeOf p1 p2 = some r0) : CtI l yX9_placeOf wsX9_placeOf rm_X9_placeOf sx D (tyL cI cZ cO) [.int p1, .int p2] [] r0 [] := by
  refine ctI_of (cc := cX9_placeOf) (ret := (some .int)) (maxL := 2) (by decide) rfl (Nat.le_of_ble_eq_true rfl) ?_
  intro p e s m below meth c A ls C K hw hl
  exact q_X9_placeOf_0 C K r0 p1 p2 hF hw (lv_sub hl [0, 1] rfl)
abbrev rm_X9_warmthOf : Room := { frames := 1, cells := 0, slots := 0, locals := 21 }
theorem in_X9_warmthOf_X9 : ∀ w ∈ u_ws RX9 TX9 3, w ∈ wsX9_warmthOf := fun w h => List.mem_cons_of_mem _ (bi_wsX90 w h)
theorem lk_X9_warmthOf_0 : Cond.fieldLink RX9 11 "GloveHouses$State" "cells" "[I" ∈ wsX9_warmthOf := List.mem_cons_of_mem _ (bi_wsL_law0_r5 _ (List.mem_of_getElem? (i := 11) rfl))
theorem lk_X9_warmthOf_1 : Cond.initialized RX9 ∈ wsX9_warmthOf := List.mem_cons_of_mem _ (bi_wsL_law0_r2 _ (List.mem_of_getElem? (i := 12) rfl))
theorem lk_X9_warmthOf_2 : Cond.methodLink RX9 50 yX9_placeOf ∈ wsX9_warmthOf := List.mem_cons_of_mem _ (bi_wsL_law0_r27 _ (List.mem_of_getElem? (i := 3) rfl))
theorem lk_X9_warmthOf_3 : Cond.static yX9_placeOf ∈ wsX9_warmthOf := List.mem_cons_of_mem _ (bi_wsL_law0_r27 _ (List.mem_of_getElem? (i := 4) rfl))
set_option maxHeartbeats 4000000 in
set_option maxRecDepth 100000 in
theorem q_X9_warmthOf_0 {p : Program} {l : Launch} {e : Env} {s : State} {m : MethodId} {args : Array Value} {below : List Frame} {meth : Method} {c : Code} {sx : List sx_T} {D : va_G} {cI cZ cO : ClassId} {A : Nat → Prop} (C : Cx p s m args meth c RX9 wsX9_warmthOf cX9_warmthOf 3 (some .int)) (K : Kx sx D (tyL cI cZ cO) A s) (a_S : Nat) (a_S_cells : Nat) (a_told : Nat) (a_laws : Nat) (S_cells : Nat → Int32) (r0 : Int32)    (v1 : Int32) (v2 : Int32) {H : Heap} {locs : List Loc} {ls : Array Slot} (hf : b_X9_warmthOf_0 S_cells  v1 v2 = some r0) (hw : Wo D A s [(oX9 a_S (.ref a_S_cells) (.ref a_told) (.ref a_laws)), (a_S_cells, .inl (cI, 69, .inl S_cells))] H locs) (hl : lv_has ls 3 [(0, .ref a_S), (1, .int v1), (2, .int v2)]) : W p l e rm_X9_warmthOf s m args below meth c H locs 0 0 (MQ below (QcI D A r0 [(oX9 a_S (.ref a_S_cells) (.ref a_told) (.ref a_laws)), (a_S_cells, .inl (cI, 69, .inl S_cells))]) args s 0 0 A) (F0 m 0 ls []) := by
  obtain ⟨hx, hb, hml, hown, hts, hr, hlk⟩ := id C
  obtain ⟨hK, hX, hA⟩ := id K
  unfold b_X9_warmthOf_0 at hf
  refine lv_aload_n hx hb dX9_warmthOf_0 rfl (lv_at hl 0 rfl) ?_
  refine va_get (ci := 9) (v := .ref a_S_cells) (C := RX9) (T := TX9) (N := 3) hx hb hts in_X9_warmthOf_X9 hown hK hw.1 0 rfl rfl 0 (by decide) (hts _ lk_X9_warmthOf_0) (fun _ h9 => h9) rfl dX9_warmthOf_1 ?_
  refine lv_iload_n hx hb dX9_warmthOf_4 rfl (lv_at hl 1 rfl) ?_
  refine lv_iload_n hx hb dX9_warmthOf_5 rfl (lv_at hl 2 rfl) ?_
  obtain ⟨r_1, hg_2, hf⟩ := ob1_some hf
  refine cl_SiA (As := [.int v1, .int v2]) (rest := [.ref a_S_cells]) C K hw (k_X9_placeOf r_1 v1 v2 hg_2) [] rfl (by decide) rfl rfl ⟨callB_of 2 hts (fun w h => gX9_warmthOf_X9_placeOf w (List.mem_append_right _ h)) rfl rfl rfl (hts _ lk_X9_warmthOf_1) (hts _ lk_X9_warmthOf_2) (by decide +kernel) ⟨Nat.le_of_ble_eq_true rfl, Nat.le_of_ble_eq_true rfl⟩, hts _ lk_X9_warmthOf_3⟩ rfl hl rfl (Nat.le_of_ble_eq_true rfl) dX9_warmthOf_6 ⟨Nat.zero_le _, Nat.zero_le _⟩ (fun H locs hw => ?_)
  have hw : Wo D A s [(oX9 a_S (.ref a_S_cells) (.ref a_told) (.ref a_laws)), (a_S_cells, .inl (cI, 69, .inl S_cells))] H locs := hw
  obtain ⟨hc_3, hf⟩ := gd_some hf
  refine va_iald hx hb hK hw.1 1 0 rfl rfl (inB_in hc_3) dX9_warmthOf_9 ?_
  cases hf
  exact retI C hw dX9_warmthOf_10 rfl
set_option maxHeartbeats 4000000 in
set_option maxRecDepth 100000 in
theorem k_X9_warmthOf {l : Launch} {sx : List sx_T} {D : va_G} {cI cZ cO : ClassId} (a_S : Nat) (a_S_cells : Nat) (a_told : Nat) (a_laws : Nat) (S_cells : Nat → Int32) (r0 : Int32) (p1 : Int32) (p2 : Int32) (hF : f_X9_warmthOf S_cells p1 p2 = some r0) : CtI l yX9_warmthOf wsX9_warmthOf rm_X9_warmthOf sx D (tyL cI cZ cO) [.ref a_S, .int p1, .int p2] [(oX9 a_S (.ref a_S_cells) (.ref a_told) (.ref a_laws)), (a_S_cells, .inl (cI, 69, .inl S_cells))] r0 [(oX9 a_S (.ref a_S_cells) (.ref a_told) (.ref a_laws)), (a_S_cells, .inl (cI, 69, .inl S_cells))] := by
  refine ctI_of (cc := cX9_warmthOf) (ret := (some .int)) (maxL := 3) (by decide) rfl (Nat.le_of_ble_eq_true rfl) ?_
  intro p e s m below meth c A ls C K hw hl
  exact q_X9_warmthOf_0 C K a_S a_S_cells a_told a_laws S_cells r0 p1 p2 hF hw (lv_sub hl [0, 1, 2] rfl)
abbrev rm_X9_pay : Room := { frames := 0, cells := 0, slots := 0, locals := 0 }
theorem in_X9_pay_X9 : ∀ w ∈ u_ws RX9 TX9 3, w ∈ wsX9_pay := fun w h => List.mem_cons_of_mem _ (bi_wsX90 w h)
theorem lk_X9_pay_0 : Cond.fieldLink RX9 11 "GloveHouses$State" "cells" "[I" ∈ wsX9_pay := List.mem_cons_of_mem _ (bi_wsL_law0_r5 _ (List.mem_of_getElem? (i := 11) rfl))
set_option maxHeartbeats 4000000 in
set_option maxRecDepth 100000 in
theorem q_X9_pay_0 {p : Program} {l : Launch} {e : Env} {s : State} {m : MethodId} {args : Array Value} {below : List Frame} {meth : Method} {c : Code} {sx : List sx_T} {D : va_G} {cI cZ cO : ClassId} {A : Nat → Prop} (C : Cx p s m args meth c RX9 wsX9_pay cX9_pay 2 none) (K : Kx sx D (tyL cI cZ cO) A s) (a_S : Nat) (a_S_cells : Nat) (a_told : Nat) (a_laws : Nat) (o_S_cells : Nat → Int32)    (S_cells : Nat → Int32) (v1 : Int32) {H : Heap} {locs : List Loc} {ls : Array Slot} (hf : b_X9_pay_0   S_cells v1 = some o_S_cells) (hw : Wo D A s [(oX9 a_S (.ref a_S_cells) (.ref a_told) (.ref a_laws)), (a_S_cells, .inl (cI, 69, .inl S_cells))] H locs) (hl : lv_has ls 2 [(0, .ref a_S), (1, .int v1)]) : W p l e rm_X9_pay s m args below meth c H locs 0 0 (MQ below (QcV D A [(oX9 a_S (.ref a_S_cells) (.ref a_told) (.ref a_laws)), (a_S_cells, .inl (cI, 69, .inl o_S_cells))]) args s 0 0 A) (F0 m 0 ls []) := by
  obtain ⟨hx, hb, hml, hown, hts, hr, hlk⟩ := id C
  obtain ⟨hK, hX, hA⟩ := id K
  unfold b_X9_pay_0 at hf
  refine lv_aload_n hx hb dX9_pay_0 rfl (lv_at hl 0 rfl) ?_
  refine va_get (ci := 9) (v := .ref a_S_cells) (C := RX9) (T := TX9) (N := 3) hx hb hts in_X9_pay_X9 hown hK hw.1 0 rfl rfl 0 (by decide) (hts _ lk_X9_pay_0) (fun _ h9 => h9) rfl dX9_pay_1 ?_
  refine lv_bipush (v := (67 : Int32)) hx hb dX9_pay_4 (by decide) ?_
  refine lv_dup2_11 hx hb dX9_pay_6 rfl rfl ?_
  obtain ⟨hc_1, hf⟩ := gd_some hf
  refine va_iald hx hb hK hw.1 1 0 rfl rfl (inB_in hc_1) dX9_pay_7 ?_
  refine lv_iload_n hx hb dX9_pay_8 rfl (lv_at hl 1 rfl) ?_
  refine lv_isub hx hb dX9_pay_9 ?_
  obtain ⟨hc_2, hf⟩ := gd_some hf
  obtain ⟨S_cells_3, e_S_cells_3, hf⟩ := bnd_some hf
  refine va_iast hx hb hK hw.1 hw.2.1 hw.2.2 1 0 rfl rfl (inB_in hc_2) dX9_pay_10 (fun H locs hP hD hS => ?_)
  have hw : Wo D A s [(oX9 a_S (.ref a_S_cells) (.ref a_told) (.ref a_laws)), (a_S_cells, .inl (cI, 69, .inl S_cells_3))] H locs := by rw [e_S_cells_3]; exact ⟨hP, hD, hS⟩
  cases hf
  exact retV C hw dX9_pay_11
set_option maxHeartbeats 4000000 in
set_option maxRecDepth 100000 in
theorem k_X9_pay {l : Launch} {sx : List sx_T} {D : va_G} {cI cZ cO : ClassId} (a_S : Nat) (a_S_cells : Nat) (a_told : Nat) (a_laws : Nat) (o_S_cells : Nat → Int32) (S_cells : Nat → Int32) (p1 : Int32) (hF : f_X9_pay S_cells p1 = some o_S_cells) : CtV l yX9_pay wsX9_pay rm_X9_pay sx D (tyL cI cZ cO) [.ref a_S, .int p1] [(oX9 a_S (.ref a_S_cells) (.ref a_told) (.ref a_laws)), (a_S_cells, .inl (cI, 69, .inl S_cells))] [(oX9 a_S (.ref a_S_cells) (.ref a_told) (.ref a_laws)), (a_S_cells, .inl (cI, 69, .inl o_S_cells))] := by
  refine ctV_of (cc := cX9_pay) (ret := none) (maxL := 2) (by decide) rfl (Nat.le_of_ble_eq_true rfl) ?_
  intro p e s m below meth c A ls C K hw hl
  exact q_X9_pay_0 C K a_S a_S_cells a_told a_laws o_S_cells S_cells p1 hF hw (lv_sub hl [0, 1] rfl)
abbrev rm_X9_day : Room := { frames := 0, cells := 0, slots := 0, locals := 0 }
theorem in_X9_day_X9 : ∀ w ∈ u_ws RX9 TX9 3, w ∈ wsX9_day := fun w h => List.mem_cons_of_mem _ (bi_wsX90 w h)
theorem lk_X9_day_0 : Cond.fieldLink RX9 11 "GloveHouses$State" "cells" "[I" ∈ wsX9_day := List.mem_cons_of_mem _ (bi_wsL_law0_r5 _ (List.mem_of_getElem? (i := 11) rfl))
set_option maxHeartbeats 4000000 in
set_option maxRecDepth 100000 in
theorem q_X9_day_0 {p : Program} {l : Launch} {e : Env} {s : State} {m : MethodId} {args : Array Value} {below : List Frame} {meth : Method} {c : Code} {sx : List sx_T} {D : va_G} {cI cZ cO : ClassId} {A : Nat → Prop} (C : Cx p s m args meth c RX9 wsX9_day cX9_day 1 (some .int)) (K : Kx sx D (tyL cI cZ cO) A s) (a_S : Nat) (a_S_cells : Nat) (a_told : Nat) (a_laws : Nat) (S_cells : Nat → Int32) (r0 : Int32)     {H : Heap} {locs : List Loc} {ls : Array Slot} (hf : b_X9_day_0 S_cells   = some r0) (hw : Wo D A s [(oX9 a_S (.ref a_S_cells) (.ref a_told) (.ref a_laws)), (a_S_cells, .inl (cI, 69, .inl S_cells))] H locs) (hl : lv_has ls 1 [(0, .ref a_S)]) : W p l e rm_X9_day s m args below meth c H locs 0 0 (MQ below (QcI D A r0 [(oX9 a_S (.ref a_S_cells) (.ref a_told) (.ref a_laws)), (a_S_cells, .inl (cI, 69, .inl S_cells))]) args s 0 0 A) (F0 m 0 ls []) := by
  obtain ⟨hx, hb, hml, hown, hts, hr, hlk⟩ := id C
  obtain ⟨hK, hX, hA⟩ := id K
  unfold b_X9_day_0 at hf
  refine lv_aload_n hx hb dX9_day_0 rfl (lv_at hl 0 rfl) ?_
  refine va_get (ci := 9) (v := .ref a_S_cells) (C := RX9) (T := TX9) (N := 3) hx hb hts in_X9_day_X9 hown hK hw.1 0 rfl rfl 0 (by decide) (hts _ lk_X9_day_0) (fun _ h9 => h9) rfl dX9_day_1 ?_
  refine lv_bipush (v := (68 : Int32)) hx hb dX9_day_4 (by decide) ?_
  obtain ⟨hc_1, hf⟩ := gd_some hf
  refine va_iald hx hb hK hw.1 1 0 rfl rfl (inB_in hc_1) dX9_day_6 ?_
  cases hf
  exact retI C hw dX9_day_7 rfl
set_option maxHeartbeats 4000000 in
set_option maxRecDepth 100000 in
theorem k_X9_day {l : Launch} {sx : List sx_T} {D : va_G} {cI cZ cO : ClassId} (a_S : Nat) (a_S_cells : Nat) (a_told : Nat) (a_laws : Nat) (S_cells : Nat → Int32) (r0 : Int32) (hF : f_X9_day S_cells = some r0) : CtI l yX9_day wsX9_day rm_X9_day sx D (tyL cI cZ cO) [.ref a_S] [(oX9 a_S (.ref a_S_cells) (.ref a_told) (.ref a_laws)), (a_S_cells, .inl (cI, 69, .inl S_cells))] r0 [(oX9 a_S (.ref a_S_cells) (.ref a_told) (.ref a_laws)), (a_S_cells, .inl (cI, 69, .inl S_cells))] := by
  refine ctI_of (cc := cX9_day) (ret := (some .int)) (maxL := 1) (by decide) rfl (Nat.le_of_ble_eq_true rfl) ?_
  intro p e s m below meth c A ls C K hw hl
  exact q_X9_day_0 C K a_S a_S_cells a_told a_laws S_cells r0  hF hw (lv_sub hl [0] rfl)
abbrev rm_X9_riseAt : Room := { frames := 3, cells := 0, slots := 0, locals := 78 }
theorem in_X9_riseAt_X9 : ∀ w ∈ u_ws RX9 TX9 3, w ∈ wsX9_riseAt := fun w h => List.mem_cons_of_mem _ (bi_wsX90 w h)
theorem lk_X9_riseAt_0 : Cond.fieldLink RX9 19 "GloveHouses$State" "laws" "LGloveHouses$Laws;" ∈ wsX9_riseAt := List.mem_cons_of_mem _ (bi_wsL_law0_r5 _ (List.mem_of_getElem? (i := 13) rfl))
theorem lk_X9_riseAt_1 : Cond.fieldLink RX9 15 "GloveHouses$State" "told" "LGloveHouses$Peace;" ∈ wsX9_riseAt := List.mem_cons_of_mem _ (bi_wsL_law0_r5 _ (List.mem_of_getElem? (i := 12) rfl))
set_option maxHeartbeats 4000000 in
set_option maxRecDepth 100000 in
theorem q_X9_riseAt_0 {p : Program} {l : Launch} {e : Env} {s : State} {m : MethodId} {args : Array Value} {below : List Frame} {meth : Method} {c : Code} {sx : List sx_T} {D : va_G} {cI cZ cO : ClassId} {A : Nat → Prop} (C : Cx p s m args meth c RX9 wsX9_riseAt cX9_riseAt 5 (some .int)) (K : Kx sx D (tyL cI cZ cO) A s) (a_told : Nat) (a_told_house : Nat) (a_told_free : Nat) (a_told_stuffed : Nat) (a_told_after : Nat) (a_told_weight : Nat) (a_told_need : Nat) (a_laws : Nat) (a_laws_codes : Nat) (a_laws_lengths : Nat) (a_laws_letters : Nat) (a_laws_stack : Nat) (a_S : Nat) (a_S_cells : Nat) (rw : Nat → Nat) (told_gloves : Int32) (told_matters : Int32) (told_pride : Int32) (told_coins : Int32) (told_after : Nat → Int32) (laws_size : Int32) (laws_holds : Int32) (laws_lengths : Nat → Int32) (laws_c0 : Nat → Int32) (laws_c1 : Nat → Int32) (laws_c2 : Nat → Int32) (laws_c3 : Nat → Int32) (S_cells : Nat → Int32) (r0 : Int32) (o_laws_letters : Nat → Int32) (o_laws_stack : Nat → Int32)    (laws_letters : Nat → Int32) (laws_stack : Nat → Int32) (v1 : Int32) (v2 : Int32) (v3 : Int32) (v4 : Int32) {H : Heap} {locs : List Loc} {ls : Array Slot} (hf : b_X9_riseAt_0 told_after laws_holds laws_lengths laws_c0 laws_c1 laws_c2 laws_c3 S_cells  laws_letters laws_stack v1 v2 v3 v4 = some (r0, o_laws_letters, o_laws_stack)) (hw : Wo D A s [(oX5 a_told (.int told_gloves) (.int told_matters) (.int told_pride) (.int told_coins) (.ref a_told_house) (.ref a_told_free) (.ref a_told_stuffed) (.ref a_told_after) (.ref a_told_weight) (.ref a_told_need)), (a_told_after, .inl (cI, 6, .inl told_after)), (oX2 a_laws (.int laws_size) (.int laws_holds) (.ref a_laws_codes) (.ref a_laws_lengths) (.ref a_laws_letters) (.ref a_laws_stack)), (a_laws_codes, .inl (cO, 4, .inr (.inr (.inr (.inr (rwF rw)))))), (a_laws_lengths, .inl (cI, 4, .inl laws_lengths)), (a_laws_letters, .inl (cI, 6, .inl laws_letters)), (a_laws_stack, .inl (cI, 241, .inl laws_stack)), ((rw 0), .inl (cI, 241, .inl laws_c0)), ((rw 1), .inl (cI, 241, .inl laws_c1)), ((rw 2), .inl (cI, 241, .inl laws_c2)), ((rw 3), .inl (cI, 241, .inl laws_c3)), (oX9 a_S (.ref a_S_cells) (.ref a_told) (.ref a_laws)), (a_S_cells, .inl (cI, 69, .inl S_cells))] H locs) (hl : lv_has ls 5 [(0, .ref a_S), (1, .int v1), (2, .int v2), (3, .int v3), (4, .int v4)]) : W p l e rm_X9_riseAt s m args below meth c H locs 0 0 (MQ below (QcI D A r0 [(oX5 a_told (.int told_gloves) (.int told_matters) (.int told_pride) (.int told_coins) (.ref a_told_house) (.ref a_told_free) (.ref a_told_stuffed) (.ref a_told_after) (.ref a_told_weight) (.ref a_told_need)), (a_told_after, .inl (cI, 6, .inl told_after)), (oX2 a_laws (.int laws_size) (.int laws_holds) (.ref a_laws_codes) (.ref a_laws_lengths) (.ref a_laws_letters) (.ref a_laws_stack)), (a_laws_codes, .inl (cO, 4, .inr (.inr (.inr (.inr (rwF rw)))))), (a_laws_lengths, .inl (cI, 4, .inl laws_lengths)), (a_laws_letters, .inl (cI, 6, .inl o_laws_letters)), (a_laws_stack, .inl (cI, 241, .inl o_laws_stack)), ((rw 0), .inl (cI, 241, .inl laws_c0)), ((rw 1), .inl (cI, 241, .inl laws_c1)), ((rw 2), .inl (cI, 241, .inl laws_c2)), ((rw 3), .inl (cI, 241, .inl laws_c3)), (oX9 a_S (.ref a_S_cells) (.ref a_told) (.ref a_laws)), (a_S_cells, .inl (cI, 69, .inl S_cells))]) args s 0 0 A) (F0 m 0 ls []) := by
  obtain ⟨hx, hb, hml, hown, hts, hr, hlk⟩ := id C
  obtain ⟨hK, hX, hA⟩ := id K
  unfold b_X9_riseAt_0 at hf
  refine lv_aload_n hx hb dX9_riseAt_0 rfl (lv_at hl 0 rfl) ?_
  refine va_get (ci := 9) (v := .ref a_laws) (C := RX9) (T := TX9) (N := 3) hx hb hts in_X9_riseAt_X9 hown hK hw.1 11 rfl rfl 2 (by decide) (hts _ lk_X9_riseAt_0) (fun _ h9 => h9) rfl dX9_riseAt_1 ?_
  refine lv_aload_n hx hb dX9_riseAt_4 rfl (lv_at hl 0 rfl) ?_
  refine lv_iload_n hx hb dX9_riseAt_5 rfl (lv_at hl 1 rfl) ?_
  obtain ⟨r_1, hg_2, hf⟩ := ob1_some hf
  refine cl_ViA (As := [.int v1]) (rest := [.ref a_laws]) C K hw (k_X9_free a_S a_S_cells a_told a_laws S_cells r_1 v1 hg_2) [11, 12] rfl (by decide) rfl rfl (ci := 9) (j := 11) rfl rfl (cwV 1 hts gX9_riseAt_X9_free rfl rfl rfl (by decide +kernel) ⟨Nat.le_of_ble_eq_true rfl, Nat.le_of_ble_eq_true rfl⟩) rfl hl rfl (Nat.le_of_ble_eq_true rfl) dX9_riseAt_6 ⟨Nat.zero_le _, Nat.zero_le _⟩ (fun H locs hw => ?_)
  have hw : Wo D A s [(oX5 a_told (.int told_gloves) (.int told_matters) (.int told_pride) (.int told_coins) (.ref a_told_house) (.ref a_told_free) (.ref a_told_stuffed) (.ref a_told_after) (.ref a_told_weight) (.ref a_told_need)), (a_told_after, .inl (cI, 6, .inl told_after)), (oX2 a_laws (.int laws_size) (.int laws_holds) (.ref a_laws_codes) (.ref a_laws_lengths) (.ref a_laws_letters) (.ref a_laws_stack)), (a_laws_codes, .inl (cO, 4, .inr (.inr (.inr (.inr (rwF rw)))))), (a_laws_lengths, .inl (cI, 4, .inl laws_lengths)), (a_laws_letters, .inl (cI, 6, .inl laws_letters)), (a_laws_stack, .inl (cI, 241, .inl laws_stack)), ((rw 0), .inl (cI, 241, .inl laws_c0)), ((rw 1), .inl (cI, 241, .inl laws_c1)), ((rw 2), .inl (cI, 241, .inl laws_c2)), ((rw 3), .inl (cI, 241, .inl laws_c3)), (oX9 a_S (.ref a_S_cells) (.ref a_told) (.ref a_laws)), (a_S_cells, .inl (cI, 69, .inl S_cells))] H locs := hw
  refine lv_aload_n hx hb dX9_riseAt_9 rfl (lv_at hl 0 rfl) ?_
  refine lv_iload_n hx hb dX9_riseAt_10 rfl (lv_at hl 2 rfl) ?_
  obtain ⟨r_3, hg_4, hf⟩ := ob1_some hf
  refine cl_ViA (As := [.int v2]) (rest := [.int r_1, .ref a_laws]) C K hw (k_X9_free a_S a_S_cells a_told a_laws S_cells r_3 v2 hg_4) [11, 12] rfl (by decide) rfl rfl (ci := 9) (j := 11) rfl rfl (cwV 1 hts gX9_riseAt_X9_free rfl rfl rfl (by decide +kernel) ⟨Nat.le_of_ble_eq_true rfl, Nat.le_of_ble_eq_true rfl⟩) rfl hl rfl (Nat.le_of_ble_eq_true rfl) dX9_riseAt_11 ⟨Nat.zero_le _, Nat.zero_le _⟩ (fun H locs hw => ?_)
  have hw : Wo D A s [(oX5 a_told (.int told_gloves) (.int told_matters) (.int told_pride) (.int told_coins) (.ref a_told_house) (.ref a_told_free) (.ref a_told_stuffed) (.ref a_told_after) (.ref a_told_weight) (.ref a_told_need)), (a_told_after, .inl (cI, 6, .inl told_after)), (oX2 a_laws (.int laws_size) (.int laws_holds) (.ref a_laws_codes) (.ref a_laws_lengths) (.ref a_laws_letters) (.ref a_laws_stack)), (a_laws_codes, .inl (cO, 4, .inr (.inr (.inr (.inr (rwF rw)))))), (a_laws_lengths, .inl (cI, 4, .inl laws_lengths)), (a_laws_letters, .inl (cI, 6, .inl laws_letters)), (a_laws_stack, .inl (cI, 241, .inl laws_stack)), ((rw 0), .inl (cI, 241, .inl laws_c0)), ((rw 1), .inl (cI, 241, .inl laws_c1)), ((rw 2), .inl (cI, 241, .inl laws_c2)), ((rw 3), .inl (cI, 241, .inl laws_c3)), (oX9 a_S (.ref a_S_cells) (.ref a_told) (.ref a_laws)), (a_S_cells, .inl (cI, 69, .inl S_cells))] H locs := hw
  refine lv_iadd hx hb dX9_riseAt_14 ?_
  refine lv_aload_n hx hb dX9_riseAt_15 rfl (lv_at hl 0 rfl) ?_
  refine lv_iload_n hx hb dX9_riseAt_16 rfl (lv_at hl 1 rfl) ?_
  obtain ⟨r_5, hg_6, hf⟩ := ob1_some hf
  refine cl_ViA (As := [.int v1]) (rest := [.int (r_1 + r_3), .ref a_laws]) C K hw (k_X9_stuffed a_S a_S_cells a_told a_laws S_cells r_5 v1 hg_6) [11, 12] rfl (by decide) rfl rfl (ci := 9) (j := 11) rfl rfl (cwV 1 hts gX9_riseAt_X9_stuffed rfl rfl rfl (by decide +kernel) ⟨Nat.le_of_ble_eq_true rfl, Nat.le_of_ble_eq_true rfl⟩) rfl hl rfl (Nat.le_of_ble_eq_true rfl) dX9_riseAt_17 ⟨Nat.zero_le _, Nat.zero_le _⟩ (fun H locs hw => ?_)
  have hw : Wo D A s [(oX5 a_told (.int told_gloves) (.int told_matters) (.int told_pride) (.int told_coins) (.ref a_told_house) (.ref a_told_free) (.ref a_told_stuffed) (.ref a_told_after) (.ref a_told_weight) (.ref a_told_need)), (a_told_after, .inl (cI, 6, .inl told_after)), (oX2 a_laws (.int laws_size) (.int laws_holds) (.ref a_laws_codes) (.ref a_laws_lengths) (.ref a_laws_letters) (.ref a_laws_stack)), (a_laws_codes, .inl (cO, 4, .inr (.inr (.inr (.inr (rwF rw)))))), (a_laws_lengths, .inl (cI, 4, .inl laws_lengths)), (a_laws_letters, .inl (cI, 6, .inl laws_letters)), (a_laws_stack, .inl (cI, 241, .inl laws_stack)), ((rw 0), .inl (cI, 241, .inl laws_c0)), ((rw 1), .inl (cI, 241, .inl laws_c1)), ((rw 2), .inl (cI, 241, .inl laws_c2)), ((rw 3), .inl (cI, 241, .inl laws_c3)), (oX9 a_S (.ref a_S_cells) (.ref a_told) (.ref a_laws)), (a_S_cells, .inl (cI, 69, .inl S_cells))] H locs := hw
  refine lv_aload_n hx hb dX9_riseAt_20 rfl (lv_at hl 0 rfl) ?_
  refine lv_iload_n hx hb dX9_riseAt_21 rfl (lv_at hl 2 rfl) ?_
  obtain ⟨r_7, hg_8, hf⟩ := ob1_some hf
  refine cl_ViA (As := [.int v2]) (rest := [.int r_5, .int (r_1 + r_3), .ref a_laws]) C K hw (k_X9_stuffed a_S a_S_cells a_told a_laws S_cells r_7 v2 hg_8) [11, 12] rfl (by decide) rfl rfl (ci := 9) (j := 11) rfl rfl (cwV 1 hts gX9_riseAt_X9_stuffed rfl rfl rfl (by decide +kernel) ⟨Nat.le_of_ble_eq_true rfl, Nat.le_of_ble_eq_true rfl⟩) rfl hl rfl (Nat.le_of_ble_eq_true rfl) dX9_riseAt_22 ⟨Nat.zero_le _, Nat.zero_le _⟩ (fun H locs hw => ?_)
  have hw : Wo D A s [(oX5 a_told (.int told_gloves) (.int told_matters) (.int told_pride) (.int told_coins) (.ref a_told_house) (.ref a_told_free) (.ref a_told_stuffed) (.ref a_told_after) (.ref a_told_weight) (.ref a_told_need)), (a_told_after, .inl (cI, 6, .inl told_after)), (oX2 a_laws (.int laws_size) (.int laws_holds) (.ref a_laws_codes) (.ref a_laws_lengths) (.ref a_laws_letters) (.ref a_laws_stack)), (a_laws_codes, .inl (cO, 4, .inr (.inr (.inr (.inr (rwF rw)))))), (a_laws_lengths, .inl (cI, 4, .inl laws_lengths)), (a_laws_letters, .inl (cI, 6, .inl laws_letters)), (a_laws_stack, .inl (cI, 241, .inl laws_stack)), ((rw 0), .inl (cI, 241, .inl laws_c0)), ((rw 1), .inl (cI, 241, .inl laws_c1)), ((rw 2), .inl (cI, 241, .inl laws_c2)), ((rw 3), .inl (cI, 241, .inl laws_c3)), (oX9 a_S (.ref a_S_cells) (.ref a_told) (.ref a_laws)), (a_S_cells, .inl (cI, 69, .inl S_cells))] H locs := hw
  refine lv_iadd hx hb dX9_riseAt_25 ?_
  refine lv_iload_n hx hb dX9_riseAt_26 rfl (lv_at hl 3 rfl) ?_
  refine lv_aload_n hx hb dX9_riseAt_27 rfl (lv_at hl 0 rfl) ?_
  refine va_get (ci := 9) (v := .ref a_told) (C := RX9) (T := TX9) (N := 3) hx hb hts in_X9_riseAt_X9 hown hK hw.1 11 rfl rfl 1 (by decide) (hts _ lk_X9_riseAt_1) (fun _ h9 => h9) rfl dX9_riseAt_28 ?_
  refine lv_iload_n hx hb dX9_riseAt_31 rfl (lv_at hl 1 rfl) ?_
  refine lv_iload_n hx hb dX9_riseAt_32 rfl (lv_at hl 2 rfl) ?_
  obtain ⟨r_9, hg_10, hf⟩ := ob1_some hf
  refine cl_ViA (As := [.int v1, .int v2]) (rest := [.int v3, .int (r_5 + r_7), .int (r_1 + r_3), .ref a_laws]) C K hw (k_X5_sameAim a_told a_told_house a_told_free a_told_stuffed a_told_after a_told_weight a_told_need told_gloves told_matters told_pride told_coins told_after r_9 v1 v2 hg_10) [0, 1] rfl (by decide) rfl rfl (ci := 5) (j := 0) rfl rfl (cwV 2 hts gX9_riseAt_X5_sameAim rfl rfl rfl (by decide +kernel) ⟨Nat.le_of_ble_eq_true rfl, Nat.le_of_ble_eq_true rfl⟩) rfl hl rfl (Nat.le_of_ble_eq_true rfl) dX9_riseAt_33 ⟨Nat.zero_le _, Nat.zero_le _⟩ (fun H locs hw => ?_)
  have hw : Wo D A s [(oX5 a_told (.int told_gloves) (.int told_matters) (.int told_pride) (.int told_coins) (.ref a_told_house) (.ref a_told_free) (.ref a_told_stuffed) (.ref a_told_after) (.ref a_told_weight) (.ref a_told_need)), (a_told_after, .inl (cI, 6, .inl told_after)), (oX2 a_laws (.int laws_size) (.int laws_holds) (.ref a_laws_codes) (.ref a_laws_lengths) (.ref a_laws_letters) (.ref a_laws_stack)), (a_laws_codes, .inl (cO, 4, .inr (.inr (.inr (.inr (rwF rw)))))), (a_laws_lengths, .inl (cI, 4, .inl laws_lengths)), (a_laws_letters, .inl (cI, 6, .inl laws_letters)), (a_laws_stack, .inl (cI, 241, .inl laws_stack)), ((rw 0), .inl (cI, 241, .inl laws_c0)), ((rw 1), .inl (cI, 241, .inl laws_c1)), ((rw 2), .inl (cI, 241, .inl laws_c2)), ((rw 3), .inl (cI, 241, .inl laws_c3)), (oX9 a_S (.ref a_S_cells) (.ref a_told) (.ref a_laws)), (a_S_cells, .inl (cI, 69, .inl S_cells))] H locs := hw
  refine lv_aload_n hx hb dX9_riseAt_36 rfl (lv_at hl 0 rfl) ?_
  obtain ⟨r_11, hg_12, hf⟩ := ob1_some hf
  refine cl_ViA (As := []) (rest := [.int r_9, .int v3, .int (r_5 + r_7), .int (r_1 + r_3), .ref a_laws]) C K hw (k_X9_pride a_S a_S_cells a_told a_laws S_cells r_11 hg_12) [11, 12] rfl (by decide) rfl rfl (ci := 9) (j := 11) rfl rfl (cwV 0 hts gX9_riseAt_X9_pride rfl rfl rfl (by decide +kernel) ⟨Nat.le_of_ble_eq_true rfl, Nat.le_of_ble_eq_true rfl⟩) rfl hl rfl (Nat.le_of_ble_eq_true rfl) dX9_riseAt_37 ⟨Nat.zero_le _, Nat.zero_le _⟩ (fun H locs hw => ?_)
  have hw : Wo D A s [(oX5 a_told (.int told_gloves) (.int told_matters) (.int told_pride) (.int told_coins) (.ref a_told_house) (.ref a_told_free) (.ref a_told_stuffed) (.ref a_told_after) (.ref a_told_weight) (.ref a_told_need)), (a_told_after, .inl (cI, 6, .inl told_after)), (oX2 a_laws (.int laws_size) (.int laws_holds) (.ref a_laws_codes) (.ref a_laws_lengths) (.ref a_laws_letters) (.ref a_laws_stack)), (a_laws_codes, .inl (cO, 4, .inr (.inr (.inr (.inr (rwF rw)))))), (a_laws_lengths, .inl (cI, 4, .inl laws_lengths)), (a_laws_letters, .inl (cI, 6, .inl laws_letters)), (a_laws_stack, .inl (cI, 241, .inl laws_stack)), ((rw 0), .inl (cI, 241, .inl laws_c0)), ((rw 1), .inl (cI, 241, .inl laws_c1)), ((rw 2), .inl (cI, 241, .inl laws_c2)), ((rw 3), .inl (cI, 241, .inl laws_c3)), (oX9 a_S (.ref a_S_cells) (.ref a_told) (.ref a_laws)), (a_S_cells, .inl (cI, 69, .inl S_cells))] H locs := hw
  refine lv_iload hx hb dX9_riseAt_40 (lv_at hl 4 rfl) ?_
  obtain ⟨r_13, laws_letters_14, laws_stack_15, hg_16, hf⟩ := ob3_some hf
  refine cl_ViA (As := [.int (r_1 + r_3), .int (r_5 + r_7), .int v3, .int r_9, .int r_11, .int v4]) (rest := []) C K hw (k_X2_riseBy a_laws a_laws_codes a_laws_lengths a_laws_letters a_laws_stack rw laws_size laws_holds laws_lengths laws_c0 laws_c1 laws_c2 laws_c3 r_13 laws_letters_14 laws_stack_15 laws_letters laws_stack (r_1 + r_3) (r_5 + r_7) v3 r_9 r_11 v4 hg_16) [2, 3, 4, 5, 6, 7, 8, 9, 10] rfl (by decide) rfl rfl (ci := 2) (j := 2) rfl rfl (cwV 6 hts gX9_riseAt_X2_riseBy rfl rfl rfl (by decide +kernel) ⟨Nat.le_of_ble_eq_true rfl, Nat.le_of_ble_eq_true rfl⟩) rfl hl rfl (Nat.le_of_ble_eq_true rfl) dX9_riseAt_42 ⟨Nat.zero_le _, Nat.zero_le _⟩ (fun H locs hw => ?_)
  have hw : Wo D A s [(oX5 a_told (.int told_gloves) (.int told_matters) (.int told_pride) (.int told_coins) (.ref a_told_house) (.ref a_told_free) (.ref a_told_stuffed) (.ref a_told_after) (.ref a_told_weight) (.ref a_told_need)), (a_told_after, .inl (cI, 6, .inl told_after)), (oX2 a_laws (.int laws_size) (.int laws_holds) (.ref a_laws_codes) (.ref a_laws_lengths) (.ref a_laws_letters) (.ref a_laws_stack)), (a_laws_codes, .inl (cO, 4, .inr (.inr (.inr (.inr (rwF rw)))))), (a_laws_lengths, .inl (cI, 4, .inl laws_lengths)), (a_laws_letters, .inl (cI, 6, .inl laws_letters_14)), (a_laws_stack, .inl (cI, 241, .inl laws_stack_15)), ((rw 0), .inl (cI, 241, .inl laws_c0)), ((rw 1), .inl (cI, 241, .inl laws_c1)), ((rw 2), .inl (cI, 241, .inl laws_c2)), ((rw 3), .inl (cI, 241, .inl laws_c3)), (oX9 a_S (.ref a_S_cells) (.ref a_told) (.ref a_laws)), (a_S_cells, .inl (cI, 69, .inl S_cells))] H locs := hw
  cases hf
  exact retI C hw dX9_riseAt_45 rfl
set_option maxHeartbeats 4000000 in
set_option maxRecDepth 100000 in
theorem k_X9_riseAt {l : Launch} {sx : List sx_T} {D : va_G} {cI cZ cO : ClassId} (a_told : Nat) (a_told_house : Nat) (a_told_free : Nat) (a_told_stuffed : Nat) (a_told_after : Nat) (a_told_weight : Nat) (a_told_need : Nat) (a_laws : Nat) (a_laws_codes : Nat) (a_laws_lengths : Nat) (a_laws_letters : Nat) (a_laws_stack : Nat) (a_S : Nat) (a_S_cells : Nat) (rw : Nat → Nat) (told_gloves : Int32) (told_matters : Int32) (told_pride : Int32) (told_coins : Int32) (told_after : Nat → Int32) (laws_size : Int32) (laws_holds : Int32) (laws_lengths : Nat → Int32) (laws_c0 : Nat → Int32) (laws_c1 : Nat → Int32) (laws_c2 : Nat → Int32) (laws_c3 : Nat → Int32) (S_cells : Nat → Int32) (r0 : Int32) (o_laws_letters : Nat → Int32) (o_laws_stack : Nat → Int32) (laws_letters : Nat → Int32) (laws_stack : Nat → Int32) (p1 : Int32) (p2 : Int32) (p3 : Int32) (p4 : Int32) (hF : f_X9_riseAt told_after laws_holds laws_lengths laws_c0 laws_c1 laws_c2 laws_c3 S_cells laws_letters laws_stack p1 p2 p3 p4 = some (r0, o_laws_letters, o_laws_stack)) : CtI l yX9_riseAt wsX9_riseAt rm_X9_riseAt sx D (tyL cI cZ cO) [.ref a_S, .int p1, .int p2, .int p3, .int p4] [(oX5 a_told (.int told_gloves) (.int told_matters) (.int told_pride) (.int told_coins) (.ref a_told_house) (.ref a_told_free) (.ref a_told_stuffed) (.ref a_told_after) (.ref a_told_weight) (.ref a_told_need)), (a_told_after, .inl (cI, 6, .inl told_after)), (oX2 a_laws (.int laws_size) (.int laws_holds) (.ref a_laws_codes) (.ref a_laws_lengths) (.ref a_laws_letters) (.ref a_laws_stack)), (a_laws_codes, .inl (cO, 4, .inr (.inr (.inr (.inr (rwF rw)))))), (a_laws_lengths, .inl (cI, 4, .inl laws_lengths)), (a_laws_letters, .inl (cI, 6, .inl laws_letters)), (a_laws_stack, .inl (cI, 241, .inl laws_stack)), ((rw 0), .inl (cI, 241, .inl laws_c0)), ((rw 1), .inl (cI, 241, .inl laws_c1)), ((rw 2), .inl (cI, 241, .inl laws_c2)), ((rw 3), .inl (cI, 241, .inl laws_c3)), (oX9 a_S (.ref a_S_cells) (.ref a_told) (.ref a_laws)), (a_S_cells, .inl (cI, 69, .inl S_cells))] r0 [(oX5 a_told (.int told_gloves) (.int told_matters) (.int told_pride) (.int told_coins) (.ref a_told_house) (.ref a_told_free) (.ref a_told_stuffed) (.ref a_told_after) (.ref a_told_weight) (.ref a_told_need)), (a_told_after, .inl (cI, 6, .inl told_after)), (oX2 a_laws (.int laws_size) (.int laws_holds) (.ref a_laws_codes) (.ref a_laws_lengths) (.ref a_laws_letters) (.ref a_laws_stack)), (a_laws_codes, .inl (cO, 4, .inr (.inr (.inr (.inr (rwF rw)))))), (a_laws_lengths, .inl (cI, 4, .inl laws_lengths)), (a_laws_letters, .inl (cI, 6, .inl o_laws_letters)), (a_laws_stack, .inl (cI, 241, .inl o_laws_stack)), ((rw 0), .inl (cI, 241, .inl laws_c0)), ((rw 1), .inl (cI, 241, .inl laws_c1)), ((rw 2), .inl (cI, 241, .inl laws_c2)), ((rw 3), .inl (cI, 241, .inl laws_c3)), (oX9 a_S (.ref a_S_cells) (.ref a_told) (.ref a_laws)), (a_S_cells, .inl (cI, 69, .inl S_cells))] := by
  refine ctI_of (cc := cX9_riseAt) (ret := (some .int)) (maxL := 5) (by decide) rfl (Nat.le_of_ble_eq_true rfl) ?_
  intro p e s m below meth c A ls C K hw hl
  exact q_X9_riseAt_0 C K a_told a_told_house a_told_free a_told_stuffed a_told_after a_told_weight a_told_need a_laws a_laws_codes a_laws_lengths a_laws_letters a_laws_stack a_S a_S_cells rw told_gloves told_matters told_pride told_coins told_after laws_size laws_holds laws_lengths laws_c0 laws_c1 laws_c2 laws_c3 S_cells r0 o_laws_letters o_laws_stack laws_letters laws_stack p1 p2 p3 p4 hF hw (lv_sub hl [0, 1, 2, 3, 4] rfl)
abbrev rm_X9_warmer : Room := { frames := 4, cells := 0, slots := 0, locals := 102 }
theorem lk_X9_warmer_0 : Cond.methodLink RX9 44 Lib.Math.min.name ∈ wsX9_warmer := List.mem_cons_of_mem _ (bi_wsL_law0_r29 _ (List.mem_of_getElem? (i := 14) rfl))
theorem lk_X9_warmer_1 : Cond.static Lib.Math.min.name ∈ wsX9_warmer := List.mem_cons_of_mem _ (bi_wsL_law0_r27 _ (List.mem_of_getElem? (i := 18) rfl))
theorem lk_X9_warmer_2 : Cond.initialized "java/lang/Math" ∈ wsX9_warmer := List.mem_cons_of_mem _ (bi_wsL_law0_r27 _ (List.mem_of_getElem? (i := 19) rfl))
theorem lk_X9_warmer_3 : Cond.code Lib.Math.min.name Lib.Math.min.code 2 (some .int) ∈ wsX9_warmer := List.mem_cons_of_mem _ (bi_wsL_law0_r27 _ (List.mem_of_getElem? (i := 20) rfl))
theorem lk_X9_warmer_4 : Cond.methodLink RX9 80 Lib.Math.max.name ∈ wsX9_warmer := List.mem_cons_of_mem _ (bi_wsL_law0_r29 _ (List.mem_of_getElem? (i := 15) rfl))
theorem lk_X9_warmer_5 : Cond.static Lib.Math.max.name ∈ wsX9_warmer := List.mem_cons_of_mem _ (bi_wsL_law0_r27 _ (List.mem_of_getElem? (i := 22) rfl))
theorem lk_X9_warmer_6 : Cond.code Lib.Math.max.name Lib.Math.max.code 2 (some .int) ∈ wsX9_warmer := List.mem_cons_of_mem _ (bi_wsL_law0_r27 _ (List.mem_of_getElem? (i := 23) rfl))
set_option maxHeartbeats 4000000 in
set_option maxRecDepth 100000 in
theorem q_X9_warmer_0 {p : Program} {l : Launch} {e : Env} {s : State} {m : MethodId} {args : Array Value} {below : List Frame} {meth : Method} {c : Code} {sx : List sx_T} {D : va_G} {cI cZ cO : ClassId} {A : Nat → Prop} (C : Cx p s m args meth c RX9 wsX9_warmer cX9_warmer 6 (some .int)) (K : Kx sx D (tyL cI cZ cO) A s) (a_told : Nat) (a_told_house : Nat) (a_told_free : Nat) (a_told_stuffed : Nat) (a_told_after : Nat) (a_told_weight : Nat) (a_told_need : Nat) (a_laws : Nat) (a_laws_codes : Nat) (a_laws_lengths : Nat) (a_laws_letters : Nat) (a_laws_stack : Nat) (a_S : Nat) (a_S_cells : Nat) (rw : Nat → Nat) (told_gloves : Int32) (told_matters : Int32) (told_pride : Int32) (told_coins : Int32) (told_after : Nat → Int32) (laws_size : Int32) (laws_holds : Int32) (laws_lengths : Nat → Int32) (laws_c0 : Nat → Int32) (laws_c1 : Nat → Int32) (laws_c2 : Nat → Int32) (laws_c3 : Nat → Int32) (S_cells : Nat → Int32) (r0 : Int32) (o_laws_letters : Nat → Int32) (o_laws_stack : Nat → Int32)    (laws_letters : Nat → Int32) (laws_stack : Nat → Int32) (v1 : Int32) (v2 : Int32) (v3 : Int32) (v4 : Int32) {H : Heap} {locs : List Loc} {ls : Array Slot} (hf : b_X9_warmer_0 told_after laws_holds laws_lengths laws_c0 laws_c1 laws_c2 laws_c3 S_cells  laws_letters laws_stack v1 v2 v3 v4 = some (r0, o_laws_letters, o_laws_stack)) (hw : Wo D A s [(oX5 a_told (.int told_gloves) (.int told_matters) (.int told_pride) (.int told_coins) (.ref a_told_house) (.ref a_told_free) (.ref a_told_stuffed) (.ref a_told_after) (.ref a_told_weight) (.ref a_told_need)), (a_told_after, .inl (cI, 6, .inl told_after)), (oX2 a_laws (.int laws_size) (.int laws_holds) (.ref a_laws_codes) (.ref a_laws_lengths) (.ref a_laws_letters) (.ref a_laws_stack)), (a_laws_codes, .inl (cO, 4, .inr (.inr (.inr (.inr (rwF rw)))))), (a_laws_lengths, .inl (cI, 4, .inl laws_lengths)), (a_laws_letters, .inl (cI, 6, .inl laws_letters)), (a_laws_stack, .inl (cI, 241, .inl laws_stack)), ((rw 0), .inl (cI, 241, .inl laws_c0)), ((rw 1), .inl (cI, 241, .inl laws_c1)), ((rw 2), .inl (cI, 241, .inl laws_c2)), ((rw 3), .inl (cI, 241, .inl laws_c3)), (oX9 a_S (.ref a_S_cells) (.ref a_told) (.ref a_laws)), (a_S_cells, .inl (cI, 69, .inl S_cells))] H locs) (hl : lv_has ls 6 [(0, .ref a_S), (1, .int v1), (2, .int v2), (3, .int v3), (4, .int v4)]) : W p l e rm_X9_warmer s m args below meth c H locs 0 0 (MQ below (QcI D A r0 [(oX5 a_told (.int told_gloves) (.int told_matters) (.int told_pride) (.int told_coins) (.ref a_told_house) (.ref a_told_free) (.ref a_told_stuffed) (.ref a_told_after) (.ref a_told_weight) (.ref a_told_need)), (a_told_after, .inl (cI, 6, .inl told_after)), (oX2 a_laws (.int laws_size) (.int laws_holds) (.ref a_laws_codes) (.ref a_laws_lengths) (.ref a_laws_letters) (.ref a_laws_stack)), (a_laws_codes, .inl (cO, 4, .inr (.inr (.inr (.inr (rwF rw)))))), (a_laws_lengths, .inl (cI, 4, .inl laws_lengths)), (a_laws_letters, .inl (cI, 6, .inl o_laws_letters)), (a_laws_stack, .inl (cI, 241, .inl o_laws_stack)), ((rw 0), .inl (cI, 241, .inl laws_c0)), ((rw 1), .inl (cI, 241, .inl laws_c1)), ((rw 2), .inl (cI, 241, .inl laws_c2)), ((rw 3), .inl (cI, 241, .inl laws_c3)), (oX9 a_S (.ref a_S_cells) (.ref a_told) (.ref a_laws)), (a_S_cells, .inl (cI, 69, .inl S_cells))]) args s 0 0 A) (F0 m 0 ls []) := by
  obtain ⟨hx, hb, hml, hown, hts, hr, hlk⟩ := id C
  obtain ⟨hK, hX, hA⟩ := id K
  unfold b_X9_warmer_0 at hf
  refine lv_aload_n hx hb dX9_warmer_0 rfl (lv_at hl 0 rfl) ?_
  refine lv_iload_n hx hb dX9_warmer_1 rfl (lv_at hl 1 rfl) ?_
  refine lv_iload_n hx hb dX9_warmer_2 rfl (lv_at hl 2 rfl) ?_
  refine lv_iload_n hx hb dX9_warmer_3 rfl (lv_at hl 3 rfl) ?_
  refine lv_sipush (v := (999 : Int32)) hx hb dX9_warmer_4 (by decide) ?_
  refine lv_aload_n hx hb dX9_warmer_7 rfl (lv_at hl 0 rfl) ?_
  obtain ⟨r_1, hg_2, hf⟩ := ob1_some hf
  refine cl_ViA (As := []) (rest := [.int (999 : Int32), .int v3, .int v2, .int v1, .ref a_S]) C K hw (k_X9_day a_S a_S_cells a_told a_laws S_cells r_1 hg_2) [11, 12] rfl (by decide) rfl rfl (ci := 9) (j := 11) rfl rfl (cwV 0 hts gX9_warmer_X9_day rfl rfl rfl (by decide +kernel) ⟨Nat.le_of_ble_eq_true rfl, Nat.le_of_ble_eq_true rfl⟩) rfl hl rfl (Nat.le_of_ble_eq_true rfl) dX9_warmer_8 ⟨Nat.zero_le _, Nat.zero_le _⟩ (fun H locs hw => ?_)
  have hw : Wo D A s [(oX5 a_told (.int told_gloves) (.int told_matters) (.int told_pride) (.int told_coins) (.ref a_told_house) (.ref a_told_free) (.ref a_told_stuffed) (.ref a_told_after) (.ref a_told_weight) (.ref a_told_need)), (a_told_after, .inl (cI, 6, .inl told_after)), (oX2 a_laws (.int laws_size) (.int laws_holds) (.ref a_laws_codes) (.ref a_laws_lengths) (.ref a_laws_letters) (.ref a_laws_stack)), (a_laws_codes, .inl (cO, 4, .inr (.inr (.inr (.inr (rwF rw)))))), (a_laws_lengths, .inl (cI, 4, .inl laws_lengths)), (a_laws_letters, .inl (cI, 6, .inl laws_letters)), (a_laws_stack, .inl (cI, 241, .inl laws_stack)), ((rw 0), .inl (cI, 241, .inl laws_c0)), ((rw 1), .inl (cI, 241, .inl laws_c1)), ((rw 2), .inl (cI, 241, .inl laws_c2)), ((rw 3), .inl (cI, 241, .inl laws_c3)), (oX9 a_S (.ref a_S_cells) (.ref a_told) (.ref a_laws)), (a_S_cells, .inl (cI, 69, .inl S_cells))] H locs := hw
  refine lv_iload hx hb dX9_warmer_11 (lv_at hl 4 rfl) ?_
  refine lv_iadd hx hb dX9_warmer_13 ?_
  refine va_mmin hx hb (hml.trans hl.1.symm) hown (hts _ lk_X9_warmer_0) (hts _ lk_X9_warmer_1) (hts _ lk_X9_warmer_2) (hts _ lk_X9_warmer_3) (Nat.le_of_ble_eq_true rfl) (Nat.le_of_ble_eq_true rfl) (Nat.zero_le _) (Nat.zero_le _) dX9_warmer_14 ?_
  obtain ⟨n_3, e_n_3, hf⟩ := bnd_some hf
  refine lv_nmi e_n_3 ?_
  obtain ⟨r_4, laws_letters_5, laws_stack_6, hg_7, hf⟩ := ob3_some hf
  refine cl_ViA (As := [.int v1, .int v2, .int v3, .int n_3]) (rest := []) C K hw (k_X9_riseAt a_told a_told_house a_told_free a_told_stuffed a_told_after a_told_weight a_told_need a_laws a_laws_codes a_laws_lengths a_laws_letters a_laws_stack a_S a_S_cells rw told_gloves told_matters told_pride told_coins told_after laws_size laws_holds laws_lengths laws_c0 laws_c1 laws_c2 laws_c3 S_cells r_4 laws_letters_5 laws_stack_6 laws_letters laws_stack v1 v2 v3 n_3 hg_7) [0, 1, 2, 3, 4, 5, 6, 7, 8, 9, 10, 11, 12] rfl (by decide) rfl rfl (ci := 9) (j := 11) rfl rfl (cwV 4 hts gX9_warmer_X9_riseAt rfl rfl rfl (by decide +kernel) ⟨Nat.le_of_ble_eq_true rfl, Nat.le_of_ble_eq_true rfl⟩) rfl hl rfl (Nat.le_of_ble_eq_true rfl) dX9_warmer_17 ⟨Nat.zero_le _, Nat.zero_le _⟩ (fun H locs hw => ?_)
  have hw : Wo D A s [(oX5 a_told (.int told_gloves) (.int told_matters) (.int told_pride) (.int told_coins) (.ref a_told_house) (.ref a_told_free) (.ref a_told_stuffed) (.ref a_told_after) (.ref a_told_weight) (.ref a_told_need)), (a_told_after, .inl (cI, 6, .inl told_after)), (oX2 a_laws (.int laws_size) (.int laws_holds) (.ref a_laws_codes) (.ref a_laws_lengths) (.ref a_laws_letters) (.ref a_laws_stack)), (a_laws_codes, .inl (cO, 4, .inr (.inr (.inr (.inr (rwF rw)))))), (a_laws_lengths, .inl (cI, 4, .inl laws_lengths)), (a_laws_letters, .inl (cI, 6, .inl laws_letters_5)), (a_laws_stack, .inl (cI, 241, .inl laws_stack_6)), ((rw 0), .inl (cI, 241, .inl laws_c0)), ((rw 1), .inl (cI, 241, .inl laws_c1)), ((rw 2), .inl (cI, 241, .inl laws_c2)), ((rw 3), .inl (cI, 241, .inl laws_c3)), (oX9 a_S (.ref a_S_cells) (.ref a_told) (.ref a_laws)), (a_S_cells, .inl (cI, 69, .inl S_cells))] H locs := hw
  refine lv_istore (lv' := [(5, .int r_4), (0, .ref a_S), (1, .int v1), (2, .int v2), (3, .int v3), (4, .int v4)]) hx hb dX9_warmer_20 hl (by decide) rfl (fun ls hl => ?_)
  refine lv_iconst (v := (0 : Int32)) hx hb dX9_warmer_22 (by decide) ?_
  refine lv_bipush (v := (99 : Int32)) hx hb dX9_warmer_23 (by decide) ?_
  refine lv_iload_n hx hb dX9_warmer_25 rfl (lv_at hl 4 rfl) ?_
  refine lv_iload hx hb dX9_warmer_26 (lv_at hl 0 rfl) ?_
  refine lv_iadd hx hb dX9_warmer_28 ?_
  refine va_mmin hx hb (hml.trans hl.1.symm) hown (hts _ lk_X9_warmer_0) (hts _ lk_X9_warmer_1) (hts _ lk_X9_warmer_2) (hts _ lk_X9_warmer_3) (Nat.le_of_ble_eq_true rfl) (Nat.le_of_ble_eq_true rfl) (Nat.zero_le _) (Nat.zero_le _) dX9_warmer_29 ?_
  obtain ⟨n_8, e_n_8, hf⟩ := bnd_some hf
  refine lv_nmi e_n_8 ?_
  refine va_mmax hx hb (hml.trans hl.1.symm) hown (hts _ lk_X9_warmer_4) (hts _ lk_X9_warmer_5) (hts _ lk_X9_warmer_2) (hts _ lk_X9_warmer_6) (Nat.le_of_ble_eq_true rfl) (Nat.le_of_ble_eq_true rfl) (Nat.zero_le _) (Nat.zero_le _) dX9_warmer_32 ?_
  obtain ⟨n_9, e_n_9, hf⟩ := bnd_some hf
  refine lv_nmi e_n_9 ?_
  cases hf
  exact retI C hw dX9_warmer_35 rfl
set_option maxHeartbeats 4000000 in
set_option maxRecDepth 100000 in
theorem k_X9_warmer {l : Launch} {sx : List sx_T} {D : va_G} {cI cZ cO : ClassId} (a_told : Nat) (a_told_house : Nat) (a_told_free : Nat) (a_told_stuffed : Nat) (a_told_after : Nat) (a_told_weight : Nat) (a_told_need : Nat) (a_laws : Nat) (a_laws_codes : Nat) (a_laws_lengths : Nat) (a_laws_letters : Nat) (a_laws_stack : Nat) (a_S : Nat) (a_S_cells : Nat) (rw : Nat → Nat) (told_gloves : Int32) (told_matters : Int32) (told_pride : Int32) (told_coins : Int32) (told_after : Nat → Int32) (laws_size : Int32) (laws_holds : Int32) (laws_lengths : Nat → Int32) (laws_c0 : Nat → Int32) (laws_c1 : Nat → Int32) (laws_c2 : Nat → Int32) (laws_c3 : Nat → Int32) (S_cells : Nat → Int32) (r0 : Int32) (o_laws_letters : Nat → Int32) (o_laws_stack : Nat → Int32) (laws_letters : Nat → Int32) (laws_stack : Nat → Int32) (p1 : Int32) (p2 : Int32) (p3 : Int32) (p4 : Int32) (hF : f_X9_warmer told_after laws_holds laws_lengths laws_c0 laws_c1 laws_c2 laws_c3 S_cells laws_letters laws_stack p1 p2 p3 p4 = some (r0, o_laws_letters, o_laws_stack)) : CtI l yX9_warmer wsX9_warmer rm_X9_warmer sx D (tyL cI cZ cO) [.ref a_S, .int p1, .int p2, .int p3, .int p4] [(oX5 a_told (.int told_gloves) (.int told_matters) (.int told_pride) (.int told_coins) (.ref a_told_house) (.ref a_told_free) (.ref a_told_stuffed) (.ref a_told_after) (.ref a_told_weight) (.ref a_told_need)), (a_told_after, .inl (cI, 6, .inl told_after)), (oX2 a_laws (.int laws_size) (.int laws_holds) (.ref a_laws_codes) (.ref a_laws_lengths) (.ref a_laws_letters) (.ref a_laws_stack)), (a_laws_codes, .inl (cO, 4, .inr (.inr (.inr (.inr (rwF rw)))))), (a_laws_lengths, .inl (cI, 4, .inl laws_lengths)), (a_laws_letters, .inl (cI, 6, .inl laws_letters)), (a_laws_stack, .inl (cI, 241, .inl laws_stack)), ((rw 0), .inl (cI, 241, .inl laws_c0)), ((rw 1), .inl (cI, 241, .inl laws_c1)), ((rw 2), .inl (cI, 241, .inl laws_c2)), ((rw 3), .inl (cI, 241, .inl laws_c3)), (oX9 a_S (.ref a_S_cells) (.ref a_told) (.ref a_laws)), (a_S_cells, .inl (cI, 69, .inl S_cells))] r0 [(oX5 a_told (.int told_gloves) (.int told_matters) (.int told_pride) (.int told_coins) (.ref a_told_house) (.ref a_told_free) (.ref a_told_stuffed) (.ref a_told_after) (.ref a_told_weight) (.ref a_told_need)), (a_told_after, .inl (cI, 6, .inl told_after)), (oX2 a_laws (.int laws_size) (.int laws_holds) (.ref a_laws_codes) (.ref a_laws_lengths) (.ref a_laws_letters) (.ref a_laws_stack)), (a_laws_codes, .inl (cO, 4, .inr (.inr (.inr (.inr (rwF rw)))))), (a_laws_lengths, .inl (cI, 4, .inl laws_lengths)), (a_laws_letters, .inl (cI, 6, .inl o_laws_letters)), (a_laws_stack, .inl (cI, 241, .inl o_laws_stack)), ((rw 0), .inl (cI, 241, .inl laws_c0)), ((rw 1), .inl (cI, 241, .inl laws_c1)), ((rw 2), .inl (cI, 241, .inl laws_c2)), ((rw 3), .inl (cI, 241, .inl laws_c3)), (oX9 a_S (.ref a_S_cells) (.ref a_told) (.ref a_laws)), (a_S_cells, .inl (cI, 69, .inl S_cells))] := by
  refine ctI_of (cc := cX9_warmer) (ret := (some .int)) (maxL := 6) (by decide) rfl (Nat.le_of_ble_eq_true rfl) ?_
  intro p e s m below meth c A ls C K hw hl
  exact q_X9_warmer_0 C K a_told a_told_house a_told_free a_told_stuffed a_told_after a_told_weight a_told_need a_laws a_laws_codes a_laws_lengths a_laws_letters a_laws_stack a_S a_S_cells rw told_gloves told_matters told_pride told_coins told_after laws_size laws_holds laws_lengths laws_c0 laws_c1 laws_c2 laws_c3 S_cells r0 o_laws_letters o_laws_stack laws_letters laws_stack p1 p2 p3 p4 hF hw (lv_sub hl [0, 1, 2, 3, 4] rfl)
abbrev rm_X9_signLowest : Room := { frames := 2, cells := 0, slots := 0, locals := 43 }
theorem in_X9_signLowest_X9 : ∀ w ∈ u_ws RX9 TX9 3, w ∈ wsX9_signLowest := fun w h => List.mem_cons_of_mem _ (bi_wsX90 w h)
theorem in_X9_signLowest_X5 : ∀ w ∈ u_ws RX5 TX5 10, w ∈ wsX9_signLowest := fun w h => List.mem_cons_of_mem _ (bi_wsX50 w h)
theorem lk_X9_signLowest_0 : Cond.fieldLink RX9 15 "GloveHouses$State" "told" "LGloveHouses$Peace;" ∈ wsX9_signLowest := List.mem_cons_of_mem _ (bi_wsL_law0_r5 _ (List.mem_of_getElem? (i := 12) rfl))
theorem lk_X9_signLowest_1 : Cond.fieldLink RX9 93 "GloveHouses$Peace" "matters" "I" ∈ wsX9_signLowest := List.mem_cons_of_mem _ (bi_wsL_law0_r31 _ (List.mem_of_getElem? (i := 8) rfl))
theorem lk_X9_signLowest_2 : Cond.fieldLink RX9 99 "GloveHouses$Peace" "need" "[I" ∈ wsX9_signLowest := List.mem_cons_of_mem _ (bi_wsL_law0_r31 _ (List.mem_of_getElem? (i := 9) rfl))
theorem lk_X9_signLowest_3 : Cond.fieldLink RX9 11 "GloveHouses$State" "cells" "[I" ∈ wsX9_signLowest := List.mem_cons_of_mem _ (bi_wsL_law0_r5 _ (List.mem_of_getElem? (i := 11) rfl))
theorem lk_X9_signLowest_4 : Cond.methodLink RX9 44 Lib.Math.min.name ∈ wsX9_signLowest := List.mem_cons_of_mem _ (bi_wsL_law0_r29 _ (List.mem_of_getElem? (i := 14) rfl))
theorem lk_X9_signLowest_5 : Cond.static Lib.Math.min.name ∈ wsX9_signLowest := List.mem_cons_of_mem _ (bi_wsL_law0_r27 _ (List.mem_of_getElem? (i := 18) rfl))
theorem lk_X9_signLowest_6 : Cond.initialized "java/lang/Math" ∈ wsX9_signLowest := List.mem_cons_of_mem _ (bi_wsL_law0_r27 _ (List.mem_of_getElem? (i := 19) rfl))
theorem lk_X9_signLowest_7 : Cond.code Lib.Math.min.name Lib.Math.min.code 2 (some .int) ∈ wsX9_signLowest := List.mem_cons_of_mem _ (bi_wsL_law0_r27 _ (List.mem_of_getElem? (i := 20) rfl))
theorem lk_X9_signLowest_8 : Cond.methodLink RX9 80 Lib.Math.max.name ∈ wsX9_signLowest := List.mem_cons_of_mem _ (bi_wsL_law0_r29 _ (List.mem_of_getElem? (i := 15) rfl))
theorem lk_X9_signLowest_9 : Cond.static Lib.Math.max.name ∈ wsX9_signLowest := List.mem_cons_of_mem _ (bi_wsL_law0_r27 _ (List.mem_of_getElem? (i := 22) rfl))
theorem lk_X9_signLowest_10 : Cond.code Lib.Math.max.name Lib.Math.max.code 2 (some .int) ∈ wsX9_signLowest := List.mem_cons_of_mem _ (bi_wsL_law0_r27 _ (List.mem_of_getElem? (i := 23) rfl))
set_option maxHeartbeats 4000000 in
set_option maxRecDepth 100000 in
theorem q_X9_signLowest_77 {p : Program} {l : Launch} {e : Env} {s : State} {m : MethodId} {args : Array Value} {below : List Frame} {meth : Method} {c : Code} {sx : List sx_T} {D : va_G} {cI cZ cO : ClassId} {A : Nat → Prop} (C : Cx p s m args meth c RX9 wsX9_signLowest cX9_signLowest 4 none) (K : Kx sx D (tyL cI cZ cO) A s) (a_told : Nat) (a_told_house : Nat) (a_told_free : Nat) (a_told_stuffed : Nat) (a_told_after : Nat) (a_told_weight : Nat) (a_told_need : Nat) (a_S : Nat) (a_S_cells : Nat) (a_laws : Nat) (told_gloves : Int32) (told_matters : Int32) (told_pride : Int32) (told_coins : Int32) (told_need : Nat → Int32) (o_S_cells : Nat → Int32)   (k2 : (Nat → Int32) → Int32 → Int32 → Int32 → Option ((Nat → Int32))) (hk2 : ∀ (S_cells : Nat → Int32) (v1 : Int32) (v2 : Int32) (v3 : Int32) (H : Heap) (locs : List Loc) (ls : Array Slot), k2 S_cells v1 v2 v3 = some o_S_cells → Wo D A s [(oX5 a_told (.int told_gloves) (.int told_matters) (.int told_pride) (.int told_coins) (.ref a_told_house) (.ref a_told_free) (.ref a_told_stuffed) (.ref a_told_after) (.ref a_told_weight) (.ref a_told_need)), (a_told_need, .inl (cI, 5, .inl told_need)), (oX9 a_S (.ref a_S_cells) (.ref a_told) (.ref a_laws)), (a_S_cells, .inl (cI, 69, .inl S_cells))] H locs → lv_has ls 4 [(0, .ref a_S), (1, .int v1), (2, .int v2), (3, .int v3)] → W p l e rm_X9_signLowest s m args below meth c H locs 0 0 (MQ below (QcV D A [(oX5 a_told (.int told_gloves) (.int told_matters) (.int told_pride) (.int told_coins) (.ref a_told_house) (.ref a_told_free) (.ref a_told_stuffed) (.ref a_told_after) (.ref a_told_weight) (.ref a_told_need)), (a_told_need, .inl (cI, 5, .inl told_need)), (oX9 a_S (.ref a_S_cells) (.ref a_told) (.ref a_laws)), (a_S_cells, .inl (cI, 69, .inl o_S_cells))]) args s 0 0 A) (F0 m 2 ls [])) (S_cells : Nat → Int32) (v1 : Int32) (v2 : Int32) (v3 : Int32) {H : Heap} {locs : List Loc} {ls : Array Slot} (hf : b_X9_signLowest_77 told_matters told_need k2 S_cells v1 v2 v3 = some o_S_cells) (hw : Wo D A s [(oX5 a_told (.int told_gloves) (.int told_matters) (.int told_pride) (.int told_coins) (.ref a_told_house) (.ref a_told_free) (.ref a_told_stuffed) (.ref a_told_after) (.ref a_told_weight) (.ref a_told_need)), (a_told_need, .inl (cI, 5, .inl told_need)), (oX9 a_S (.ref a_S_cells) (.ref a_told) (.ref a_laws)), (a_S_cells, .inl (cI, 69, .inl S_cells))] H locs) (hl : lv_has ls 4 [(0, .ref a_S), (1, .int v1), (2, .int v2), (3, .int v3)]) : W p l e rm_X9_signLowest s m args below meth c H locs 0 0 (MQ below (QcV D A [(oX5 a_told (.int told_gloves) (.int told_matters) (.int told_pride) (.int told_coins) (.ref a_told_house) (.ref a_told_free) (.ref a_told_stuffed) (.ref a_told_after) (.ref a_told_weight) (.ref a_told_need)), (a_told_need, .inl (cI, 5, .inl told_need)), (oX9 a_S (.ref a_S_cells) (.ref a_told) (.ref a_laws)), (a_S_cells, .inl (cI, 69, .inl o_S_cells))]) args s 0 0 A) (F0 m 77 ls []) := by
  obtain ⟨hx, hb, hml, hown, hts, hr, hlk⟩ := id C
  obtain ⟨hK, hX, hA⟩ := id K
  unfold b_X9_signLowest_77 at hf
  obtain ⟨v3_1, e_v3_1, hf⟩ := bnd_some hf
  refine lv_iinc (v := v3_1) (lv' := [(3, .int v3_1), (0, .ref a_S), (1, .int v1), (2, .int v2)]) hx hb dX9_signLowest_77 hl (k := 3) rfl (by rw [e_v3_1]; rfl) (by decide) rfl (fun ls hl => ?_)
  refine lv_goto (tgt := 2) hx hb dX9_signLowest_80 (by decide) ?_
  exact hk2 S_cells v1 v2 v3_1 _ _ _ hf hw (lv_sub hl [1, 2, 3, 0] rfl)
set_option maxHeartbeats 4000000 in
set_option maxRecDepth 100000 in
theorem q_X9_signLowest_2 {p : Program} {l : Launch} {e : Env} {s : State} {m : MethodId} {args : Array Value} {below : List Frame} {meth : Method} {c : Code} {sx : List sx_T} {D : va_G} {cI cZ cO : ClassId} {A : Nat → Prop} (C : Cx p s m args meth c RX9 wsX9_signLowest cX9_signLowest 4 none) (K : Kx sx D (tyL cI cZ cO) A s) (a_told : Nat) (a_told_house : Nat) (a_told_free : Nat) (a_told_stuffed : Nat) (a_told_after : Nat) (a_told_weight : Nat) (a_told_need : Nat) (a_S : Nat) (a_S_cells : Nat) (a_laws : Nat) (told_gloves : Int32) (told_matters : Int32) (told_pride : Int32) (told_coins : Int32) (told_need : Nat → Int32) (o_S_cells : Nat → Int32)   (k2 : (Nat → Int32) → Int32 → Int32 → Int32 → Option ((Nat → Int32))) (hk2 : ∀ (S_cells : Nat → Int32) (v1 : Int32) (v2 : Int32) (v3 : Int32) (H : Heap) (locs : List Loc) (ls : Array Slot), k2 S_cells v1 v2 v3 = some o_S_cells → Wo D A s [(oX5 a_told (.int told_gloves) (.int told_matters) (.int told_pride) (.int told_coins) (.ref a_told_house) (.ref a_told_free) (.ref a_told_stuffed) (.ref a_told_after) (.ref a_told_weight) (.ref a_told_need)), (a_told_need, .inl (cI, 5, .inl told_need)), (oX9 a_S (.ref a_S_cells) (.ref a_told) (.ref a_laws)), (a_S_cells, .inl (cI, 69, .inl S_cells))] H locs → lv_has ls 4 [(0, .ref a_S), (1, .int v1), (2, .int v2), (3, .int v3)] → W p l e rm_X9_signLowest s m args below meth c H locs 0 0 (MQ below (QcV D A [(oX5 a_told (.int told_gloves) (.int told_matters) (.int told_pride) (.int told_coins) (.ref a_told_house) (.ref a_told_free) (.ref a_told_stuffed) (.ref a_told_after) (.ref a_told_weight) (.ref a_told_need)), (a_told_need, .inl (cI, 5, .inl told_need)), (oX9 a_S (.ref a_S_cells) (.ref a_told) (.ref a_laws)), (a_S_cells, .inl (cI, 69, .inl o_S_cells))]) args s 0 0 A) (F0 m 2 ls [])) (S_cells : Nat → Int32) (v1 : Int32) (v2 : Int32) (v3 : Int32) {H : Heap} {locs : List Loc} {ls : Array Slot} (hf : b_X9_signLowest_2 told_matters told_need k2 S_cells v1 v2 v3 = some o_S_cells) (hw : Wo D A s [(oX5 a_told (.int told_gloves) (.int told_matters) (.int told_pride) (.int told_coins) (.ref a_told_house) (.ref a_told_free) (.ref a_told_stuffed) (.ref a_told_after) (.ref a_told_weight) (.ref a_told_need)), (a_told_need, .inl (cI, 5, .inl told_need)), (oX9 a_S (.ref a_S_cells) (.ref a_told) (.ref a_laws)), (a_S_cells, .inl (cI, 69, .inl S_cells))] H locs) (hl : lv_has ls 4 [(0, .ref a_S), (1, .int v1), (2, .int v2), (3, .int v3)]) : W p l e rm_X9_signLowest s m args below meth c H locs 0 0 (MQ below (QcV D A [(oX5 a_told (.int told_gloves) (.int told_matters) (.int told_pride) (.int told_coins) (.ref a_told_house) (.ref a_told_free) (.ref a_told_stuffed) (.ref a_told_after) (.ref a_told_weight) (.ref a_told_need)), (a_told_need, .inl (cI, 5, .inl told_need)), (oX9 a_S (.ref a_S_cells) (.ref a_told) (.ref a_laws)), (a_S_cells, .inl (cI, 69, .inl o_S_cells))]) args s 0 0 A) (F0 m 2 ls []) := by
  obtain ⟨hx, hb, hml, hown, hts, hr, hlk⟩ := id C
  obtain ⟨hK, hX, hA⟩ := id K
  unfold b_X9_signLowest_2 at hf
  refine lv_iload_n hx hb dX9_signLowest_2 rfl (lv_at hl 3 rfl) ?_
  refine lv_aload_n hx hb dX9_signLowest_3 rfl (lv_at hl 0 rfl) ?_
  refine va_get (ci := 9) (v := .ref a_told) (C := RX9) (T := TX9) (N := 3) hx hb hts in_X9_signLowest_X9 hown hK hw.1 2 rfl rfl 1 (by decide) (hts _ lk_X9_signLowest_0) (fun _ h9 => h9) rfl dX9_signLowest_4 ?_
  refine va_get (ci := 5) (v := .int told_matters) (C := RX5) (T := TX5) (N := 10) hx hb hts in_X9_signLowest_X5 hown hK hw.1 0 rfl rfl 1 (by decide) (hts _ lk_X9_signLowest_1) (fun _ h9 => h9) rfl dX9_signLowest_7 ?_
  refine lv_icmp_ge (tgt := 83) hx hb dX9_signLowest_10 (by decide) (fun hc => ?_) (fun hc => ?_)
  · have hf := (if_pos hc).symm.trans hf
    clear hk2; cases hf
    exact retV C hw dX9_signLowest_83
  · have hf := (if_neg hc).symm.trans hf
    refine lv_aload_n hx hb dX9_signLowest_13 rfl (lv_at hl 0 rfl) ?_
    refine lv_iload_n hx hb dX9_signLowest_14 rfl (lv_at hl 3 rfl) ?_
    obtain ⟨r_1, hg_2, hf⟩ := ob1_some hf
    refine cl_ViA (As := [.int v3]) (rest := []) C K hw (k_X9_signers a_S a_S_cells a_told a_laws S_cells r_1 v3 hg_2) [2, 3] rfl (by decide) rfl rfl (ci := 9) (j := 2) rfl rfl (cwV 1 hts gX9_signLowest_X9_signers rfl rfl rfl (by decide +kernel) ⟨Nat.le_of_ble_eq_true rfl, Nat.le_of_ble_eq_true rfl⟩) rfl hl rfl (Nat.le_of_ble_eq_true rfl) dX9_signLowest_15 ⟨Nat.zero_le _, Nat.zero_le _⟩ (fun H locs hw => ?_)
    have hw : Wo D A s [(oX5 a_told (.int told_gloves) (.int told_matters) (.int told_pride) (.int told_coins) (.ref a_told_house) (.ref a_told_free) (.ref a_told_stuffed) (.ref a_told_after) (.ref a_told_weight) (.ref a_told_need)), (a_told_need, .inl (cI, 5, .inl told_need)), (oX9 a_S (.ref a_S_cells) (.ref a_told) (.ref a_laws)), (a_S_cells, .inl (cI, 69, .inl S_cells))] H locs := hw
    refine lv_iconst (v := (-1 : Int32)) hx hb dX9_signLowest_18 (by decide) ?_
    refine lv_icmp_ne (tgt := 77) hx hb dX9_signLowest_19 (by decide) (fun hc => ?_) (fun hc => ?_)
    · have hf := (if_neg hc).symm.trans hf
      exact q_X9_signLowest_77 C K a_told a_told_house a_told_free a_told_stuffed a_told_after a_told_weight a_told_need a_S a_S_cells a_laws told_gloves told_matters told_pride told_coins told_need o_S_cells k2 hk2 S_cells v1 v2 v3 hf hw (lv_sub hl [0, 1, 2, 3] rfl)
    · have hf := (if_pos hc).symm.trans hf
      refine lv_aload_n hx hb dX9_signLowest_22 rfl (lv_at hl 0 rfl) ?_
      refine lv_iload_n hx hb dX9_signLowest_23 rfl (lv_at hl 1 rfl) ?_
      refine lv_iload_n hx hb dX9_signLowest_24 rfl (lv_at hl 2 rfl) ?_
      obtain ⟨r_3, hg_4, hf⟩ := ob1_some hf
      refine cl_ViA (As := [.int v1, .int v2]) (rest := []) C K hw (k_X9_warmthOf a_S a_S_cells a_told a_laws S_cells r_3 v1 v2 hg_4) [2, 3] rfl (by decide) rfl rfl (ci := 9) (j := 2) rfl rfl (cwV 2 hts gX9_signLowest_X9_warmthOf rfl rfl rfl (by decide +kernel) ⟨Nat.le_of_ble_eq_true rfl, Nat.le_of_ble_eq_true rfl⟩) rfl hl rfl (Nat.le_of_ble_eq_true rfl) dX9_signLowest_25 ⟨Nat.zero_le _, Nat.zero_le _⟩ (fun H locs hw => ?_)
      have hw : Wo D A s [(oX5 a_told (.int told_gloves) (.int told_matters) (.int told_pride) (.int told_coins) (.ref a_told_house) (.ref a_told_free) (.ref a_told_stuffed) (.ref a_told_after) (.ref a_told_weight) (.ref a_told_need)), (a_told_need, .inl (cI, 5, .inl told_need)), (oX9 a_S (.ref a_S_cells) (.ref a_told) (.ref a_laws)), (a_S_cells, .inl (cI, 69, .inl S_cells))] H locs := hw
      refine lv_aload_n hx hb dX9_signLowest_28 rfl (lv_at hl 0 rfl) ?_
      refine va_get (ci := 9) (v := .ref a_told) (C := RX9) (T := TX9) (N := 3) hx hb hts in_X9_signLowest_X9 hown hK hw.1 2 rfl rfl 1 (by decide) (hts _ lk_X9_signLowest_0) (fun _ h9 => h9) rfl dX9_signLowest_29 ?_
      refine va_get (ci := 5) (v := .ref a_told_need) (C := RX5) (T := TX5) (N := 10) hx hb hts in_X9_signLowest_X5 hown hK hw.1 0 rfl rfl 9 (by decide) (hts _ lk_X9_signLowest_2) (fun _ h9 => h9) rfl dX9_signLowest_32 ?_
      refine lv_iload_n hx hb dX9_signLowest_35 rfl (lv_at hl 3 rfl) ?_
      obtain ⟨hc_5, hf⟩ := gd_some hf
      refine va_iald hx hb hK hw.1 1 0 rfl rfl (inB_in hc_5) dX9_signLowest_36 ?_
      refine lv_icmp_lt (tgt := 77) hx hb dX9_signLowest_37 (by decide) (fun hc => ?_) (fun hc => ?_)
      · have hf := (if_pos hc).symm.trans hf
        exact q_X9_signLowest_77 C K a_told a_told_house a_told_free a_told_stuffed a_told_after a_told_weight a_told_need a_S a_S_cells a_laws told_gloves told_matters told_pride told_coins told_need o_S_cells k2 hk2 S_cells v1 v2 v3 hf hw (lv_sub hl [0, 1, 2, 3] rfl)
      · have hf := (if_neg hc).symm.trans hf
        refine lv_aload_n hx hb dX9_signLowest_40 rfl (lv_at hl 0 rfl) ?_
        refine va_get (ci := 9) (v := .ref a_S_cells) (C := RX9) (T := TX9) (N := 3) hx hb hts in_X9_signLowest_X9 hown hK hw.1 2 rfl rfl 0 (by decide) (hts _ lk_X9_signLowest_3) (fun _ h9 => h9) rfl dX9_signLowest_41 ?_
        refine lv_bipush (v := (60 : Int32)) hx hb dX9_signLowest_44 (by decide) ?_
        refine lv_iload_n hx hb dX9_signLowest_46 rfl (lv_at hl 3 rfl) ?_
        refine lv_iadd hx hb dX9_signLowest_47 ?_
        refine lv_bipush (v := (10 : Int32)) hx hb dX9_signLowest_48 (by decide) ?_
        refine lv_iload_n hx hb dX9_signLowest_50 rfl (lv_at hl 1 rfl) ?_
        refine lv_iload_n hx hb dX9_signLowest_51 rfl (lv_at hl 2 rfl) ?_
        refine va_mmin hx hb (hml.trans hl.1.symm) hown (hts _ lk_X9_signLowest_4) (hts _ lk_X9_signLowest_5) (hts _ lk_X9_signLowest_6) (hts _ lk_X9_signLowest_7) (Nat.le_of_ble_eq_true rfl) (Nat.le_of_ble_eq_true rfl) (Nat.zero_le _) (Nat.zero_le _) dX9_signLowest_52 ?_
        obtain ⟨n_6, e_n_6, hf⟩ := bnd_some hf
        refine lv_nmi e_n_6 ?_
        refine lv_imul hx hb dX9_signLowest_55 ?_
        refine lv_iload_n hx hb dX9_signLowest_56 rfl (lv_at hl 1 rfl) ?_
        refine lv_iload_n hx hb dX9_signLowest_57 rfl (lv_at hl 2 rfl) ?_
        refine va_mmax hx hb (hml.trans hl.1.symm) hown (hts _ lk_X9_signLowest_8) (hts _ lk_X9_signLowest_9) (hts _ lk_X9_signLowest_6) (hts _ lk_X9_signLowest_10) (Nat.le_of_ble_eq_true rfl) (Nat.le_of_ble_eq_true rfl) (Nat.zero_le _) (Nat.zero_le _) dX9_signLowest_58 ?_
        obtain ⟨n_7, e_n_7, hf⟩ := bnd_some hf
        refine lv_nmi e_n_7 ?_
        refine lv_iadd hx hb dX9_signLowest_61 ?_
        obtain ⟨hc_8, hf⟩ := gd_some hf
        obtain ⟨S_cells_9, e_S_cells_9, hf⟩ := bnd_some hf
        refine va_iast hx hb hK hw.1 hw.2.1 hw.2.2 3 0 rfl rfl (inB_in hc_8) dX9_signLowest_62 (fun H locs hP hD hS => ?_)
        have hw : Wo D A s [(oX5 a_told (.int told_gloves) (.int told_matters) (.int told_pride) (.int told_coins) (.ref a_told_house) (.ref a_told_free) (.ref a_told_stuffed) (.ref a_told_after) (.ref a_told_weight) (.ref a_told_need)), (a_told_need, .inl (cI, 5, .inl told_need)), (oX9 a_S (.ref a_S_cells) (.ref a_told) (.ref a_laws)), (a_S_cells, .inl (cI, 69, .inl S_cells_9))] H locs := by rw [e_S_cells_9]; exact ⟨hP, hD, hS⟩
        refine lv_aload_n hx hb dX9_signLowest_63 rfl (lv_at hl 0 rfl) ?_
        refine va_get (ci := 9) (v := .ref a_S_cells) (C := RX9) (T := TX9) (N := 3) hx hb hts in_X9_signLowest_X9 hown hK hw.1 2 rfl rfl 0 (by decide) (hts _ lk_X9_signLowest_3) (fun _ h9 => h9) rfl dX9_signLowest_64 ?_
        refine lv_bipush (v := (65 : Int32)) hx hb dX9_signLowest_67 (by decide) ?_
        refine lv_dup2_11 hx hb dX9_signLowest_69 rfl rfl ?_
        obtain ⟨hc_10, hf⟩ := gd_some hf
        refine va_iald hx hb hK hw.1 3 0 rfl rfl (inB_in hc_10) dX9_signLowest_70 ?_
        refine lv_iconst (v := (1 : Int32)) hx hb dX9_signLowest_71 (by decide) ?_
        refine lv_iload_n hx hb dX9_signLowest_72 rfl (lv_at hl 3 rfl) ?_
        refine lv_ishl hx hb dX9_signLowest_73 ?_
        refine lv_ior hx hb dX9_signLowest_74 ?_
        obtain ⟨n_11, e_n_11, hf⟩ := bnd_some hf
        refine lv_nmi e_n_11 ?_
        obtain ⟨hc_12, hf⟩ := gd_some hf
        obtain ⟨S_cells_13, e_S_cells_13, hf⟩ := bnd_some hf
        refine va_iast hx hb hK hw.1 hw.2.1 hw.2.2 3 0 rfl rfl (inB_in hc_12) dX9_signLowest_75 (fun H locs hP hD hS => ?_)
        have hw : Wo D A s [(oX5 a_told (.int told_gloves) (.int told_matters) (.int told_pride) (.int told_coins) (.ref a_told_house) (.ref a_told_free) (.ref a_told_stuffed) (.ref a_told_after) (.ref a_told_weight) (.ref a_told_need)), (a_told_need, .inl (cI, 5, .inl told_need)), (oX9 a_S (.ref a_S_cells) (.ref a_told) (.ref a_laws)), (a_S_cells, .inl (cI, 69, .inl S_cells_13))] H locs := by rw [e_S_cells_13]; exact ⟨hP, hD, hS⟩
        clear hk2; cases hf
        exact retV C hw dX9_signLowest_76
theorem qf_X9_signLowest_2 {p : Program} {l : Launch} {e : Env} {s : State} {m : MethodId} {args : Array Value} {below : List Frame} {meth : Method} {c : Code} {sx : List sx_T} {D : va_G} {cI cZ cO : ClassId} {A : Nat → Prop} (C : Cx p s m args meth c RX9 wsX9_signLowest cX9_signLowest 4 none) (K : Kx sx D (tyL cI cZ cO) A s) (a_told : Nat) (a_told_house : Nat) (a_told_free : Nat) (a_told_stuffed : Nat) (a_told_after : Nat) (a_told_weight : Nat) (a_told_need : Nat) (a_S : Nat) (a_S_cells : Nat) (a_laws : Nat) (told_gloves : Int32) (told_matters : Int32) (told_pride : Int32) (told_coins : Int32) (told_need : Nat → Int32) (o_S_cells : Nat → Int32)    (n : Nat) : ∀ (S_cells : Nat → Int32) (v1 : Int32) (v2 : Int32) (v3 : Int32) (H : Heap) (locs : List Loc) (ls : Array Slot), f_X9_signLowest_2 told_matters told_need  n S_cells v1 v2 v3 = some o_S_cells → Wo D A s [(oX5 a_told (.int told_gloves) (.int told_matters) (.int told_pride) (.int told_coins) (.ref a_told_house) (.ref a_told_free) (.ref a_told_stuffed) (.ref a_told_after) (.ref a_told_weight) (.ref a_told_need)), (a_told_need, .inl (cI, 5, .inl told_need)), (oX9 a_S (.ref a_S_cells) (.ref a_told) (.ref a_laws)), (a_S_cells, .inl (cI, 69, .inl S_cells))] H locs → lv_has ls 4 [(0, .ref a_S), (1, .int v1), (2, .int v2), (3, .int v3)] → W p l e rm_X9_signLowest s m args below meth c H locs 0 0 (MQ below (QcV D A [(oX5 a_told (.int told_gloves) (.int told_matters) (.int told_pride) (.int told_coins) (.ref a_told_house) (.ref a_told_free) (.ref a_told_stuffed) (.ref a_told_after) (.ref a_told_weight) (.ref a_told_need)), (a_told_need, .inl (cI, 5, .inl told_need)), (oX9 a_S (.ref a_S_cells) (.ref a_told) (.ref a_laws)), (a_S_cells, .inl (cI, 69, .inl o_S_cells))]) args s 0 0 A) (F0 m 2 ls []) := by
  induction n with
  | zero =>
    intro S_cells v1 v2 v3 H locs ls hf
    have h9 : (none : Option ((Nat → Int32))) = some o_S_cells := hf
    cases h9
  | succ n ih =>
    intro S_cells v1 v2 v3 H locs ls hf hw hl
    exact q_X9_signLowest_2 C K a_told a_told_house a_told_free a_told_stuffed a_told_after a_told_weight a_told_need a_S a_S_cells a_laws told_gloves told_matters told_pride told_coins told_need o_S_cells  (f_X9_signLowest_2 told_matters told_need  n) ih S_cells v1 v2 v3 hf hw hl
set_option maxHeartbeats 4000000 in
set_option maxRecDepth 100000 in
theorem q_X9_signLowest_0 {p : Program} {l : Launch} {e : Env} {s : State} {m : MethodId} {args : Array Value} {below : List Frame} {meth : Method} {c : Code} {sx : List sx_T} {D : va_G} {cI cZ cO : ClassId} {A : Nat → Prop} (C : Cx p s m args meth c RX9 wsX9_signLowest cX9_signLowest 4 none) (K : Kx sx D (tyL cI cZ cO) A s) (a_told : Nat) (a_told_house : Nat) (a_told_free : Nat) (a_told_stuffed : Nat) (a_told_after : Nat) (a_told_weight : Nat) (a_told_need : Nat) (a_S : Nat) (a_S_cells : Nat) (a_laws : Nat) (told_gloves : Int32) (told_matters : Int32) (told_pride : Int32) (told_coins : Int32) (told_need : Nat → Int32) (o_S_cells : Nat → Int32)    (S_cells : Nat → Int32) (v1 : Int32) (v2 : Int32) {H : Heap} {locs : List Loc} {ls : Array Slot} (hf : b_X9_signLowest_0 told_matters told_need  S_cells v1 v2 = some o_S_cells) (hw : Wo D A s [(oX5 a_told (.int told_gloves) (.int told_matters) (.int told_pride) (.int told_coins) (.ref a_told_house) (.ref a_told_free) (.ref a_told_stuffed) (.ref a_told_after) (.ref a_told_weight) (.ref a_told_need)), (a_told_need, .inl (cI, 5, .inl told_need)), (oX9 a_S (.ref a_S_cells) (.ref a_told) (.ref a_laws)), (a_S_cells, .inl (cI, 69, .inl S_cells))] H locs) (hl : lv_has ls 4 [(0, .ref a_S), (1, .int v1), (2, .int v2)]) : W p l e rm_X9_signLowest s m args below meth c H locs 0 0 (MQ below (QcV D A [(oX5 a_told (.int told_gloves) (.int told_matters) (.int told_pride) (.int told_coins) (.ref a_told_house) (.ref a_told_free) (.ref a_told_stuffed) (.ref a_told_after) (.ref a_told_weight) (.ref a_told_need)), (a_told_need, .inl (cI, 5, .inl told_need)), (oX9 a_S (.ref a_S_cells) (.ref a_told) (.ref a_laws)), (a_S_cells, .inl (cI, 69, .inl o_S_cells))]) args s 0 0 A) (F0 m 0 ls []) := by
  obtain ⟨hx, hb, hml, hown, hts, hr, hlk⟩ := id C
  obtain ⟨hK, hX, hA⟩ := id K
  unfold b_X9_signLowest_0 at hf
  refine lv_iconst (v := (0 : Int32)) hx hb dX9_signLowest_0 (by decide) ?_
  refine lv_istore_n (lv' := [(3, .int (0 : Int32)), (0, .ref a_S), (1, .int v1), (2, .int v2)]) hx hb dX9_signLowest_1 rfl hl (by decide) rfl (fun ls hl => ?_)
  exact qf_X9_signLowest_2 C K a_told a_told_house a_told_free a_told_stuffed a_told_after a_told_weight a_told_need a_S a_S_cells a_laws told_gloves told_matters told_pride told_coins told_need o_S_cells  fu S_cells v1 v2 (0 : Int32) _ _ _ hf hw (lv_sub hl [1, 2, 3, 0] rfl)
set_option maxHeartbeats 4000000 in
set_option maxRecDepth 100000 in
theorem k_X9_signLowest {l : Launch} {sx : List sx_T} {D : va_G} {cI cZ cO : ClassId} (a_told : Nat) (a_told_house : Nat) (a_told_free : Nat) (a_told_stuffed : Nat) (a_told_after : Nat) (a_told_weight : Nat) (a_told_need : Nat) (a_S : Nat) (a_S_cells : Nat) (a_laws : Nat) (told_gloves : Int32) (told_matters : Int32) (told_pride : Int32) (told_coins : Int32) (told_need : Nat → Int32) (o_S_cells : Nat → Int32) (S_cells : Nat → Int32) (p1 : Int32) (p2 : Int32) (hF : f_X9_signLowest told_matters told_need S_cells p1 p2 = some o_S_cells) : CtV l yX9_signLowest wsX9_signLowest rm_X9_signLowest sx D (tyL cI cZ cO) [.ref a_S, .int p1, .int p2] [(oX5 a_told (.int told_gloves) (.int told_matters) (.int told_pride) (.int told_coins) (.ref a_told_house) (.ref a_told_free) (.ref a_told_stuffed) (.ref a_told_after) (.ref a_told_weight) (.ref a_told_need)), (a_told_need, .inl (cI, 5, .inl told_need)), (oX9 a_S (.ref a_S_cells) (.ref a_told) (.ref a_laws)), (a_S_cells, .inl (cI, 69, .inl S_cells))] [(oX5 a_told (.int told_gloves) (.int told_matters) (.int told_pride) (.int told_coins) (.ref a_told_house) (.ref a_told_free) (.ref a_told_stuffed) (.ref a_told_after) (.ref a_told_weight) (.ref a_told_need)), (a_told_need, .inl (cI, 5, .inl told_need)), (oX9 a_S (.ref a_S_cells) (.ref a_told) (.ref a_laws)), (a_S_cells, .inl (cI, 69, .inl o_S_cells))] := by
  refine ctV_of (cc := cX9_signLowest) (ret := none) (maxL := 4) (by decide) rfl (Nat.le_of_ble_eq_true rfl) ?_
  intro p e s m below meth c A ls C K hw hl
  exact q_X9_signLowest_0 C K a_told a_told_house a_told_free a_told_stuffed a_told_after a_told_weight a_told_need a_S a_S_cells a_laws told_gloves told_matters told_pride told_coins told_need o_S_cells S_cells p1 p2 hF hw (lv_sub hl [0, 1, 2] rfl)
abbrev rm_X9_meet : Room := { frames := 5, cells := 0, slots := 0, locals := 127 }
theorem in_X9_meet_X9 : ∀ w ∈ u_ws RX9 TX9 3, w ∈ wsX9_meet := fun w h => List.mem_cons_of_mem _ (bi_wsX90 w h)
theorem lk_X9_meet_0 : Cond.fieldLink RX9 11 "GloveHouses$State" "cells" "[I" ∈ wsX9_meet := List.mem_cons_of_mem _ (bi_wsL_law0_r5 _ (List.mem_of_getElem? (i := 11) rfl))
theorem lk_X9_meet_1 : Cond.initialized RX9 ∈ wsX9_meet := List.mem_cons_of_mem _ (bi_wsL_law0_r2 _ (List.mem_of_getElem? (i := 12) rfl))
theorem lk_X9_meet_2 : Cond.methodLink RX9 50 yX9_placeOf ∈ wsX9_meet := List.mem_cons_of_mem _ (bi_wsL_law0_r27 _ (List.mem_of_getElem? (i := 3) rfl))
theorem lk_X9_meet_3 : Cond.static yX9_placeOf ∈ wsX9_meet := List.mem_cons_of_mem _ (bi_wsL_law0_r27 _ (List.mem_of_getElem? (i := 4) rfl))
set_option maxHeartbeats 4000000 in
set_option maxRecDepth 100000 in
theorem q_X9_meet_0 {p : Program} {l : Launch} {e : Env} {s : State} {m : MethodId} {args : Array Value} {below : List Frame} {meth : Method} {c : Code} {sx : List sx_T} {D : va_G} {cI cZ cO : ClassId} {A : Nat → Prop} (C : Cx p s m args meth c RX9 wsX9_meet cX9_meet 4 none) (K : Kx sx D (tyL cI cZ cO) A s) (a_told : Nat) (a_told_house : Nat) (a_told_free : Nat) (a_told_stuffed : Nat) (a_told_after : Nat) (a_told_weight : Nat) (a_told_need : Nat) (a_laws : Nat) (a_laws_codes : Nat) (a_laws_lengths : Nat) (a_laws_letters : Nat) (a_laws_stack : Nat) (a_S : Nat) (a_S_cells : Nat) (rw : Nat → Nat) (told_gloves : Int32) (told_matters : Int32) (told_pride : Int32) (told_coins : Int32) (told_after : Nat → Int32) (told_need : Nat → Int32) (laws_size : Int32) (laws_holds : Int32) (laws_lengths : Nat → Int32) (laws_c0 : Nat → Int32) (laws_c1 : Nat → Int32) (laws_c2 : Nat → Int32) (laws_c3 : Nat → Int32) (o_laws_letters : Nat → Int32) (o_laws_stack : Nat → Int32) (o_S_cells : Nat → Int32)    (laws_letters : Nat → Int32) (laws_stack : Nat → Int32) (S_cells : Nat → Int32) (v1 : Int32) (v2 : Int32) {H : Heap} {locs : List Loc} {ls : Array Slot} (hf : b_X9_meet_0 told_matters told_after told_need laws_holds laws_lengths laws_c0 laws_c1 laws_c2 laws_c3  laws_letters laws_stack S_cells v1 v2 = some (o_laws_letters, o_laws_stack, o_S_cells)) (hw : Wo D A s [(oX5 a_told (.int told_gloves) (.int told_matters) (.int told_pride) (.int told_coins) (.ref a_told_house) (.ref a_told_free) (.ref a_told_stuffed) (.ref a_told_after) (.ref a_told_weight) (.ref a_told_need)), (a_told_after, .inl (cI, 6, .inl told_after)), (a_told_need, .inl (cI, 5, .inl told_need)), (oX2 a_laws (.int laws_size) (.int laws_holds) (.ref a_laws_codes) (.ref a_laws_lengths) (.ref a_laws_letters) (.ref a_laws_stack)), (a_laws_codes, .inl (cO, 4, .inr (.inr (.inr (.inr (rwF rw)))))), (a_laws_lengths, .inl (cI, 4, .inl laws_lengths)), (a_laws_letters, .inl (cI, 6, .inl laws_letters)), (a_laws_stack, .inl (cI, 241, .inl laws_stack)), ((rw 0), .inl (cI, 241, .inl laws_c0)), ((rw 1), .inl (cI, 241, .inl laws_c1)), ((rw 2), .inl (cI, 241, .inl laws_c2)), ((rw 3), .inl (cI, 241, .inl laws_c3)), (oX9 a_S (.ref a_S_cells) (.ref a_told) (.ref a_laws)), (a_S_cells, .inl (cI, 69, .inl S_cells))] H locs) (hl : lv_has ls 4 [(0, .ref a_S), (1, .int v1), (2, .int v2)]) : W p l e rm_X9_meet s m args below meth c H locs 0 0 (MQ below (QcV D A [(oX5 a_told (.int told_gloves) (.int told_matters) (.int told_pride) (.int told_coins) (.ref a_told_house) (.ref a_told_free) (.ref a_told_stuffed) (.ref a_told_after) (.ref a_told_weight) (.ref a_told_need)), (a_told_after, .inl (cI, 6, .inl told_after)), (a_told_need, .inl (cI, 5, .inl told_need)), (oX2 a_laws (.int laws_size) (.int laws_holds) (.ref a_laws_codes) (.ref a_laws_lengths) (.ref a_laws_letters) (.ref a_laws_stack)), (a_laws_codes, .inl (cO, 4, .inr (.inr (.inr (.inr (rwF rw)))))), (a_laws_lengths, .inl (cI, 4, .inl laws_lengths)), (a_laws_letters, .inl (cI, 6, .inl o_laws_letters)), (a_laws_stack, .inl (cI, 241, .inl o_laws_stack)), ((rw 0), .inl (cI, 241, .inl laws_c0)), ((rw 1), .inl (cI, 241, .inl laws_c1)), ((rw 2), .inl (cI, 241, .inl laws_c2)), ((rw 3), .inl (cI, 241, .inl laws_c3)), (oX9 a_S (.ref a_S_cells) (.ref a_told) (.ref a_laws)), (a_S_cells, .inl (cI, 69, .inl o_S_cells))]) args s 0 0 A) (F0 m 0 ls []) := by
  obtain ⟨hx, hb, hml, hown, hts, hr, hlk⟩ := id C
  obtain ⟨hK, hX, hA⟩ := id K
  unfold b_X9_meet_0 at hf
  refine lv_aload_n hx hb dX9_meet_0 rfl (lv_at hl 0 rfl) ?_
  refine va_get (ci := 9) (v := .ref a_S_cells) (C := RX9) (T := TX9) (N := 3) hx hb hts in_X9_meet_X9 hown hK hw.1 12 rfl rfl 0 (by decide) (hts _ lk_X9_meet_0) (fun _ h9 => h9) rfl dX9_meet_1 ?_
  refine lv_iload_n hx hb dX9_meet_4 rfl (lv_at hl 1 rfl) ?_
  refine lv_iload_n hx hb dX9_meet_5 rfl (lv_at hl 2 rfl) ?_
  obtain ⟨r_1, hg_2, hf⟩ := ob1_some hf
  refine cl_SiA (As := [.int v1, .int v2]) (rest := [.ref a_S_cells]) C K hw (k_X9_placeOf r_1 v1 v2 hg_2) [] rfl (by decide) rfl rfl ⟨callB_of 2 hts (fun w h => gX9_meet_X9_placeOf w (List.mem_append_right _ h)) rfl rfl rfl (hts _ lk_X9_meet_1) (hts _ lk_X9_meet_2) (by decide +kernel) ⟨Nat.le_of_ble_eq_true rfl, Nat.le_of_ble_eq_true rfl⟩, hts _ lk_X9_meet_3⟩ rfl hl rfl (Nat.le_of_ble_eq_true rfl) dX9_meet_6 ⟨Nat.zero_le _, Nat.zero_le _⟩ (fun H locs hw => ?_)
  have hw : Wo D A s [(oX5 a_told (.int told_gloves) (.int told_matters) (.int told_pride) (.int told_coins) (.ref a_told_house) (.ref a_told_free) (.ref a_told_stuffed) (.ref a_told_after) (.ref a_told_weight) (.ref a_told_need)), (a_told_after, .inl (cI, 6, .inl told_after)), (a_told_need, .inl (cI, 5, .inl told_need)), (oX2 a_laws (.int laws_size) (.int laws_holds) (.ref a_laws_codes) (.ref a_laws_lengths) (.ref a_laws_letters) (.ref a_laws_stack)), (a_laws_codes, .inl (cO, 4, .inr (.inr (.inr (.inr (rwF rw)))))), (a_laws_lengths, .inl (cI, 4, .inl laws_lengths)), (a_laws_letters, .inl (cI, 6, .inl laws_letters)), (a_laws_stack, .inl (cI, 241, .inl laws_stack)), ((rw 0), .inl (cI, 241, .inl laws_c0)), ((rw 1), .inl (cI, 241, .inl laws_c1)), ((rw 2), .inl (cI, 241, .inl laws_c2)), ((rw 3), .inl (cI, 241, .inl laws_c3)), (oX9 a_S (.ref a_S_cells) (.ref a_told) (.ref a_laws)), (a_S_cells, .inl (cI, 69, .inl S_cells))] H locs := hw
  refine lv_aload_n hx hb dX9_meet_9 rfl (lv_at hl 0 rfl) ?_
  refine lv_iload_n hx hb dX9_meet_10 rfl (lv_at hl 1 rfl) ?_
  refine lv_iload_n hx hb dX9_meet_11 rfl (lv_at hl 2 rfl) ?_
  refine lv_aload_n hx hb dX9_meet_12 rfl (lv_at hl 0 rfl) ?_
  refine lv_iload_n hx hb dX9_meet_13 rfl (lv_at hl 1 rfl) ?_
  refine lv_iload_n hx hb dX9_meet_14 rfl (lv_at hl 2 rfl) ?_
  obtain ⟨r_3, hg_4, hf⟩ := ob1_some hf
  refine cl_ViA (As := [.int v1, .int v2]) (rest := [.int v2, .int v1, .ref a_S, .int r_1, .ref a_S_cells]) C K hw (k_X9_warmthOf a_S a_S_cells a_told a_laws S_cells r_3 v1 v2 hg_4) [12, 13] rfl (by decide) rfl rfl (ci := 9) (j := 12) rfl rfl (cwV 2 hts gX9_meet_X9_warmthOf rfl rfl rfl (by decide +kernel) ⟨Nat.le_of_ble_eq_true rfl, Nat.le_of_ble_eq_true rfl⟩) rfl hl rfl (Nat.le_of_ble_eq_true rfl) dX9_meet_15 ⟨Nat.zero_le _, Nat.zero_le _⟩ (fun H locs hw => ?_)
  have hw : Wo D A s [(oX5 a_told (.int told_gloves) (.int told_matters) (.int told_pride) (.int told_coins) (.ref a_told_house) (.ref a_told_free) (.ref a_told_stuffed) (.ref a_told_after) (.ref a_told_weight) (.ref a_told_need)), (a_told_after, .inl (cI, 6, .inl told_after)), (a_told_need, .inl (cI, 5, .inl told_need)), (oX2 a_laws (.int laws_size) (.int laws_holds) (.ref a_laws_codes) (.ref a_laws_lengths) (.ref a_laws_letters) (.ref a_laws_stack)), (a_laws_codes, .inl (cO, 4, .inr (.inr (.inr (.inr (rwF rw)))))), (a_laws_lengths, .inl (cI, 4, .inl laws_lengths)), (a_laws_letters, .inl (cI, 6, .inl laws_letters)), (a_laws_stack, .inl (cI, 241, .inl laws_stack)), ((rw 0), .inl (cI, 241, .inl laws_c0)), ((rw 1), .inl (cI, 241, .inl laws_c1)), ((rw 2), .inl (cI, 241, .inl laws_c2)), ((rw 3), .inl (cI, 241, .inl laws_c3)), (oX9 a_S (.ref a_S_cells) (.ref a_told) (.ref a_laws)), (a_S_cells, .inl (cI, 69, .inl S_cells))] H locs := hw
  refine lv_iconst (v := (0 : Int32)) hx hb dX9_meet_18 (by decide) ?_
  obtain ⟨r_5, laws_letters_6, laws_stack_7, hg_8, hf⟩ := ob3_some hf
  refine cl_ViA (As := [.int v1, .int v2, .int r_3, .int (0 : Int32)]) (rest := [.int r_1, .ref a_S_cells]) C K hw (k_X9_warmer a_told a_told_house a_told_free a_told_stuffed a_told_after a_told_weight a_told_need a_laws a_laws_codes a_laws_lengths a_laws_letters a_laws_stack a_S a_S_cells rw told_gloves told_matters told_pride told_coins told_after laws_size laws_holds laws_lengths laws_c0 laws_c1 laws_c2 laws_c3 S_cells r_5 laws_letters_6 laws_stack_7 laws_letters laws_stack v1 v2 r_3 (0 : Int32) hg_8) [0, 1, 3, 4, 5, 6, 7, 8, 9, 10, 11, 12, 13] rfl (by decide) rfl rfl (ci := 9) (j := 12) rfl rfl (cwV 4 hts gX9_meet_X9_warmer rfl rfl rfl (by decide +kernel) ⟨Nat.le_of_ble_eq_true rfl, Nat.le_of_ble_eq_true rfl⟩) rfl hl rfl (Nat.le_of_ble_eq_true rfl) dX9_meet_19 ⟨Nat.zero_le _, Nat.zero_le _⟩ (fun H locs hw => ?_)
  have hw : Wo D A s [(oX5 a_told (.int told_gloves) (.int told_matters) (.int told_pride) (.int told_coins) (.ref a_told_house) (.ref a_told_free) (.ref a_told_stuffed) (.ref a_told_after) (.ref a_told_weight) (.ref a_told_need)), (a_told_after, .inl (cI, 6, .inl told_after)), (a_told_need, .inl (cI, 5, .inl told_need)), (oX2 a_laws (.int laws_size) (.int laws_holds) (.ref a_laws_codes) (.ref a_laws_lengths) (.ref a_laws_letters) (.ref a_laws_stack)), (a_laws_codes, .inl (cO, 4, .inr (.inr (.inr (.inr (rwF rw)))))), (a_laws_lengths, .inl (cI, 4, .inl laws_lengths)), (a_laws_letters, .inl (cI, 6, .inl laws_letters_6)), (a_laws_stack, .inl (cI, 241, .inl laws_stack_7)), ((rw 0), .inl (cI, 241, .inl laws_c0)), ((rw 1), .inl (cI, 241, .inl laws_c1)), ((rw 2), .inl (cI, 241, .inl laws_c2)), ((rw 3), .inl (cI, 241, .inl laws_c3)), (oX9 a_S (.ref a_S_cells) (.ref a_told) (.ref a_laws)), (a_S_cells, .inl (cI, 69, .inl S_cells))] H locs := hw
  obtain ⟨hc_9, hf⟩ := gd_some hf
  obtain ⟨S_cells_10, e_S_cells_10, hf⟩ := bnd_some hf
  refine va_iast hx hb hK hw.1 hw.2.1 hw.2.2 13 0 rfl rfl (inB_in hc_9) dX9_meet_22 (fun H locs hP hD hS => ?_)
  have hw : Wo D A s [(oX5 a_told (.int told_gloves) (.int told_matters) (.int told_pride) (.int told_coins) (.ref a_told_house) (.ref a_told_free) (.ref a_told_stuffed) (.ref a_told_after) (.ref a_told_weight) (.ref a_told_need)), (a_told_after, .inl (cI, 6, .inl told_after)), (a_told_need, .inl (cI, 5, .inl told_need)), (oX2 a_laws (.int laws_size) (.int laws_holds) (.ref a_laws_codes) (.ref a_laws_lengths) (.ref a_laws_letters) (.ref a_laws_stack)), (a_laws_codes, .inl (cO, 4, .inr (.inr (.inr (.inr (rwF rw)))))), (a_laws_lengths, .inl (cI, 4, .inl laws_lengths)), (a_laws_letters, .inl (cI, 6, .inl laws_letters_6)), (a_laws_stack, .inl (cI, 241, .inl laws_stack_7)), ((rw 0), .inl (cI, 241, .inl laws_c0)), ((rw 1), .inl (cI, 241, .inl laws_c1)), ((rw 2), .inl (cI, 241, .inl laws_c2)), ((rw 3), .inl (cI, 241, .inl laws_c3)), (oX9 a_S (.ref a_S_cells) (.ref a_told) (.ref a_laws)), (a_S_cells, .inl (cI, 69, .inl S_cells_10))] H locs := by rw [e_S_cells_10]; exact ⟨hP, hD, hS⟩
  refine lv_aload_n hx hb dX9_meet_23 rfl (lv_at hl 0 rfl) ?_
  refine lv_iload_n hx hb dX9_meet_24 rfl (lv_at hl 1 rfl) ?_
  obtain ⟨r_11, hg_12, hf⟩ := ob1_some hf
  refine cl_ViA (As := [.int v1]) (rest := []) C K hw (k_X9_knows a_S a_S_cells a_told a_laws S_cells_10 r_11 v1 hg_12) [12, 13] rfl (by decide) rfl rfl (ci := 9) (j := 12) rfl rfl (cwV 1 hts gX9_meet_X9_knows rfl rfl rfl (by decide +kernel) ⟨Nat.le_of_ble_eq_true rfl, Nat.le_of_ble_eq_true rfl⟩) rfl hl rfl (Nat.le_of_ble_eq_true rfl) dX9_meet_25 ⟨Nat.zero_le _, Nat.zero_le _⟩ (fun H locs hw => ?_)
  have hw : Wo D A s [(oX5 a_told (.int told_gloves) (.int told_matters) (.int told_pride) (.int told_coins) (.ref a_told_house) (.ref a_told_free) (.ref a_told_stuffed) (.ref a_told_after) (.ref a_told_weight) (.ref a_told_need)), (a_told_after, .inl (cI, 6, .inl told_after)), (a_told_need, .inl (cI, 5, .inl told_need)), (oX2 a_laws (.int laws_size) (.int laws_holds) (.ref a_laws_codes) (.ref a_laws_lengths) (.ref a_laws_letters) (.ref a_laws_stack)), (a_laws_codes, .inl (cO, 4, .inr (.inr (.inr (.inr (rwF rw)))))), (a_laws_lengths, .inl (cI, 4, .inl laws_lengths)), (a_laws_letters, .inl (cI, 6, .inl laws_letters_6)), (a_laws_stack, .inl (cI, 241, .inl laws_stack_7)), ((rw 0), .inl (cI, 241, .inl laws_c0)), ((rw 1), .inl (cI, 241, .inl laws_c1)), ((rw 2), .inl (cI, 241, .inl laws_c2)), ((rw 3), .inl (cI, 241, .inl laws_c3)), (oX9 a_S (.ref a_S_cells) (.ref a_told) (.ref a_laws)), (a_S_cells, .inl (cI, 69, .inl S_cells_10))] H locs := hw
  refine lv_aload_n hx hb dX9_meet_28 rfl (lv_at hl 0 rfl) ?_
  refine lv_iload_n hx hb dX9_meet_29 rfl (lv_at hl 2 rfl) ?_
  obtain ⟨r_13, hg_14, hf⟩ := ob1_some hf
  refine cl_ViA (As := [.int v2]) (rest := [.int r_11]) C K hw (k_X9_knows a_S a_S_cells a_told a_laws S_cells_10 r_13 v2 hg_14) [12, 13] rfl (by decide) rfl rfl (ci := 9) (j := 12) rfl rfl (cwV 1 hts gX9_meet_X9_knows rfl rfl rfl (by decide +kernel) ⟨Nat.le_of_ble_eq_true rfl, Nat.le_of_ble_eq_true rfl⟩) rfl hl rfl (Nat.le_of_ble_eq_true rfl) dX9_meet_30 ⟨Nat.zero_le _, Nat.zero_le _⟩ (fun H locs hw => ?_)
  have hw : Wo D A s [(oX5 a_told (.int told_gloves) (.int told_matters) (.int told_pride) (.int told_coins) (.ref a_told_house) (.ref a_told_free) (.ref a_told_stuffed) (.ref a_told_after) (.ref a_told_weight) (.ref a_told_need)), (a_told_after, .inl (cI, 6, .inl told_after)), (a_told_need, .inl (cI, 5, .inl told_need)), (oX2 a_laws (.int laws_size) (.int laws_holds) (.ref a_laws_codes) (.ref a_laws_lengths) (.ref a_laws_letters) (.ref a_laws_stack)), (a_laws_codes, .inl (cO, 4, .inr (.inr (.inr (.inr (rwF rw)))))), (a_laws_lengths, .inl (cI, 4, .inl laws_lengths)), (a_laws_letters, .inl (cI, 6, .inl laws_letters_6)), (a_laws_stack, .inl (cI, 241, .inl laws_stack_7)), ((rw 0), .inl (cI, 241, .inl laws_c0)), ((rw 1), .inl (cI, 241, .inl laws_c1)), ((rw 2), .inl (cI, 241, .inl laws_c2)), ((rw 3), .inl (cI, 241, .inl laws_c3)), (oX9 a_S (.ref a_S_cells) (.ref a_told) (.ref a_laws)), (a_S_cells, .inl (cI, 69, .inl S_cells_10))] H locs := hw
  refine lv_ior hx hb dX9_meet_33 ?_
  obtain ⟨v3_15, e_v3_15, hf⟩ := bnd_some hf
  refine lv_nmi e_v3_15 ?_
  refine lv_istore_n (lv' := [(3, .int v3_15), (0, .ref a_S), (1, .int v1), (2, .int v2)]) hx hb dX9_meet_34 rfl hl (by decide) rfl (fun ls hl => ?_)
  refine lv_aload_n hx hb dX9_meet_35 rfl (lv_at hl 1 rfl) ?_
  refine va_get (ci := 9) (v := .ref a_S_cells) (C := RX9) (T := TX9) (N := 3) hx hb hts in_X9_meet_X9 hown hK hw.1 12 rfl rfl 0 (by decide) (hts _ lk_X9_meet_0) (fun _ h9 => h9) rfl dX9_meet_36 ?_
  refine lv_bipush (v := (48 : Int32)) hx hb dX9_meet_39 (by decide) ?_
  refine lv_iload_n hx hb dX9_meet_41 rfl (lv_at hl 2 rfl) ?_
  refine lv_iadd hx hb dX9_meet_42 ?_
  refine lv_iload_n hx hb dX9_meet_43 rfl (lv_at hl 0 rfl) ?_
  obtain ⟨hc_16, hf⟩ := gd_some hf
  obtain ⟨S_cells_17, e_S_cells_17, hf⟩ := bnd_some hf
  refine va_iast hx hb hK hw.1 hw.2.1 hw.2.2 13 0 rfl rfl (inB_in hc_16) dX9_meet_44 (fun H locs hP hD hS => ?_)
  have hw : Wo D A s [(oX5 a_told (.int told_gloves) (.int told_matters) (.int told_pride) (.int told_coins) (.ref a_told_house) (.ref a_told_free) (.ref a_told_stuffed) (.ref a_told_after) (.ref a_told_weight) (.ref a_told_need)), (a_told_after, .inl (cI, 6, .inl told_after)), (a_told_need, .inl (cI, 5, .inl told_need)), (oX2 a_laws (.int laws_size) (.int laws_holds) (.ref a_laws_codes) (.ref a_laws_lengths) (.ref a_laws_letters) (.ref a_laws_stack)), (a_laws_codes, .inl (cO, 4, .inr (.inr (.inr (.inr (rwF rw)))))), (a_laws_lengths, .inl (cI, 4, .inl laws_lengths)), (a_laws_letters, .inl (cI, 6, .inl laws_letters_6)), (a_laws_stack, .inl (cI, 241, .inl laws_stack_7)), ((rw 0), .inl (cI, 241, .inl laws_c0)), ((rw 1), .inl (cI, 241, .inl laws_c1)), ((rw 2), .inl (cI, 241, .inl laws_c2)), ((rw 3), .inl (cI, 241, .inl laws_c3)), (oX9 a_S (.ref a_S_cells) (.ref a_told) (.ref a_laws)), (a_S_cells, .inl (cI, 69, .inl S_cells_17))] H locs := by rw [e_S_cells_17]; exact ⟨hP, hD, hS⟩
  refine lv_aload_n hx hb dX9_meet_45 rfl (lv_at hl 1 rfl) ?_
  refine va_get (ci := 9) (v := .ref a_S_cells) (C := RX9) (T := TX9) (N := 3) hx hb hts in_X9_meet_X9 hown hK hw.1 12 rfl rfl 0 (by decide) (hts _ lk_X9_meet_0) (fun _ h9 => h9) rfl dX9_meet_46 ?_
  refine lv_bipush (v := (48 : Int32)) hx hb dX9_meet_49 (by decide) ?_
  refine lv_iload_n hx hb dX9_meet_51 rfl (lv_at hl 3 rfl) ?_
  refine lv_iadd hx hb dX9_meet_52 ?_
  refine lv_iload_n hx hb dX9_meet_53 rfl (lv_at hl 0 rfl) ?_
  obtain ⟨hc_18, hf⟩ := gd_some hf
  obtain ⟨S_cells_19, e_S_cells_19, hf⟩ := bnd_some hf
  refine va_iast hx hb hK hw.1 hw.2.1 hw.2.2 13 0 rfl rfl (inB_in hc_18) dX9_meet_54 (fun H locs hP hD hS => ?_)
  have hw : Wo D A s [(oX5 a_told (.int told_gloves) (.int told_matters) (.int told_pride) (.int told_coins) (.ref a_told_house) (.ref a_told_free) (.ref a_told_stuffed) (.ref a_told_after) (.ref a_told_weight) (.ref a_told_need)), (a_told_after, .inl (cI, 6, .inl told_after)), (a_told_need, .inl (cI, 5, .inl told_need)), (oX2 a_laws (.int laws_size) (.int laws_holds) (.ref a_laws_codes) (.ref a_laws_lengths) (.ref a_laws_letters) (.ref a_laws_stack)), (a_laws_codes, .inl (cO, 4, .inr (.inr (.inr (.inr (rwF rw)))))), (a_laws_lengths, .inl (cI, 4, .inl laws_lengths)), (a_laws_letters, .inl (cI, 6, .inl laws_letters_6)), (a_laws_stack, .inl (cI, 241, .inl laws_stack_7)), ((rw 0), .inl (cI, 241, .inl laws_c0)), ((rw 1), .inl (cI, 241, .inl laws_c1)), ((rw 2), .inl (cI, 241, .inl laws_c2)), ((rw 3), .inl (cI, 241, .inl laws_c3)), (oX9 a_S (.ref a_S_cells) (.ref a_told) (.ref a_laws)), (a_S_cells, .inl (cI, 69, .inl S_cells_19))] H locs := by rw [e_S_cells_19]; exact ⟨hP, hD, hS⟩
  refine lv_aload_n hx hb dX9_meet_55 rfl (lv_at hl 1 rfl) ?_
  refine va_get (ci := 9) (v := .ref a_S_cells) (C := RX9) (T := TX9) (N := 3) hx hb hts in_X9_meet_X9 hown hK hw.1 12 rfl rfl 0 (by decide) (hts _ lk_X9_meet_0) (fun _ h9 => h9) rfl dX9_meet_56 ?_
  refine lv_bipush (v := (54 : Int32)) hx hb dX9_meet_59 (by decide) ?_
  refine lv_iload_n hx hb dX9_meet_61 rfl (lv_at hl 2 rfl) ?_
  refine lv_iadd hx hb dX9_meet_62 ?_
  refine lv_iload_n hx hb dX9_meet_63 rfl (lv_at hl 3 rfl) ?_
  obtain ⟨hc_20, hf⟩ := gd_some hf
  obtain ⟨S_cells_21, e_S_cells_21, hf⟩ := bnd_some hf
  refine va_iast hx hb hK hw.1 hw.2.1 hw.2.2 13 0 rfl rfl (inB_in hc_20) dX9_meet_64 (fun H locs hP hD hS => ?_)
  have hw : Wo D A s [(oX5 a_told (.int told_gloves) (.int told_matters) (.int told_pride) (.int told_coins) (.ref a_told_house) (.ref a_told_free) (.ref a_told_stuffed) (.ref a_told_after) (.ref a_told_weight) (.ref a_told_need)), (a_told_after, .inl (cI, 6, .inl told_after)), (a_told_need, .inl (cI, 5, .inl told_need)), (oX2 a_laws (.int laws_size) (.int laws_holds) (.ref a_laws_codes) (.ref a_laws_lengths) (.ref a_laws_letters) (.ref a_laws_stack)), (a_laws_codes, .inl (cO, 4, .inr (.inr (.inr (.inr (rwF rw)))))), (a_laws_lengths, .inl (cI, 4, .inl laws_lengths)), (a_laws_letters, .inl (cI, 6, .inl laws_letters_6)), (a_laws_stack, .inl (cI, 241, .inl laws_stack_7)), ((rw 0), .inl (cI, 241, .inl laws_c0)), ((rw 1), .inl (cI, 241, .inl laws_c1)), ((rw 2), .inl (cI, 241, .inl laws_c2)), ((rw 3), .inl (cI, 241, .inl laws_c3)), (oX9 a_S (.ref a_S_cells) (.ref a_told) (.ref a_laws)), (a_S_cells, .inl (cI, 69, .inl S_cells_21))] H locs := by rw [e_S_cells_21]; exact ⟨hP, hD, hS⟩
  refine lv_aload_n hx hb dX9_meet_65 rfl (lv_at hl 1 rfl) ?_
  refine va_get (ci := 9) (v := .ref a_S_cells) (C := RX9) (T := TX9) (N := 3) hx hb hts in_X9_meet_X9 hown hK hw.1 12 rfl rfl 0 (by decide) (hts _ lk_X9_meet_0) (fun _ h9 => h9) rfl dX9_meet_66 ?_
  refine lv_bipush (v := (54 : Int32)) hx hb dX9_meet_69 (by decide) ?_
  refine lv_iload_n hx hb dX9_meet_71 rfl (lv_at hl 3 rfl) ?_
  refine lv_iadd hx hb dX9_meet_72 ?_
  refine lv_iload_n hx hb dX9_meet_73 rfl (lv_at hl 2 rfl) ?_
  obtain ⟨hc_22, hf⟩ := gd_some hf
  obtain ⟨S_cells_23, e_S_cells_23, hf⟩ := bnd_some hf
  refine va_iast hx hb hK hw.1 hw.2.1 hw.2.2 13 0 rfl rfl (inB_in hc_22) dX9_meet_74 (fun H locs hP hD hS => ?_)
  have hw : Wo D A s [(oX5 a_told (.int told_gloves) (.int told_matters) (.int told_pride) (.int told_coins) (.ref a_told_house) (.ref a_told_free) (.ref a_told_stuffed) (.ref a_told_after) (.ref a_told_weight) (.ref a_told_need)), (a_told_after, .inl (cI, 6, .inl told_after)), (a_told_need, .inl (cI, 5, .inl told_need)), (oX2 a_laws (.int laws_size) (.int laws_holds) (.ref a_laws_codes) (.ref a_laws_lengths) (.ref a_laws_letters) (.ref a_laws_stack)), (a_laws_codes, .inl (cO, 4, .inr (.inr (.inr (.inr (rwF rw)))))), (a_laws_lengths, .inl (cI, 4, .inl laws_lengths)), (a_laws_letters, .inl (cI, 6, .inl laws_letters_6)), (a_laws_stack, .inl (cI, 241, .inl laws_stack_7)), ((rw 0), .inl (cI, 241, .inl laws_c0)), ((rw 1), .inl (cI, 241, .inl laws_c1)), ((rw 2), .inl (cI, 241, .inl laws_c2)), ((rw 3), .inl (cI, 241, .inl laws_c3)), (oX9 a_S (.ref a_S_cells) (.ref a_told) (.ref a_laws)), (a_S_cells, .inl (cI, 69, .inl S_cells_23))] H locs := by rw [e_S_cells_23]; exact ⟨hP, hD, hS⟩
  refine lv_aload_n hx hb dX9_meet_75 rfl (lv_at hl 1 rfl) ?_
  refine lv_iload_n hx hb dX9_meet_76 rfl (lv_at hl 2 rfl) ?_
  refine lv_iload_n hx hb dX9_meet_77 rfl (lv_at hl 3 rfl) ?_
  obtain ⟨S_cells_24, hg_25, hf⟩ := ob1_some hf
  refine cl_VvA (As := [.int v1, .int v2]) (rest := []) C K hw (k_X9_signLowest a_told a_told_house a_told_free a_told_stuffed a_told_after a_told_weight a_told_need a_S a_S_cells a_laws told_gloves told_matters told_pride told_coins told_need S_cells_24 S_cells_23 v1 v2 hg_25) [0, 2, 12, 13] rfl (by decide) rfl rfl (ci := 9) (j := 12) rfl rfl (cwV 2 hts gX9_meet_X9_signLowest rfl rfl rfl (by decide +kernel) ⟨Nat.le_of_ble_eq_true rfl, Nat.le_of_ble_eq_true rfl⟩) rfl hl rfl (Nat.le_of_ble_eq_true rfl) dX9_meet_78 ⟨Nat.zero_le _, Nat.zero_le _⟩ (fun H locs hw => ?_)
  have hw : Wo D A s [(oX5 a_told (.int told_gloves) (.int told_matters) (.int told_pride) (.int told_coins) (.ref a_told_house) (.ref a_told_free) (.ref a_told_stuffed) (.ref a_told_after) (.ref a_told_weight) (.ref a_told_need)), (a_told_after, .inl (cI, 6, .inl told_after)), (a_told_need, .inl (cI, 5, .inl told_need)), (oX2 a_laws (.int laws_size) (.int laws_holds) (.ref a_laws_codes) (.ref a_laws_lengths) (.ref a_laws_letters) (.ref a_laws_stack)), (a_laws_codes, .inl (cO, 4, .inr (.inr (.inr (.inr (rwF rw)))))), (a_laws_lengths, .inl (cI, 4, .inl laws_lengths)), (a_laws_letters, .inl (cI, 6, .inl laws_letters_6)), (a_laws_stack, .inl (cI, 241, .inl laws_stack_7)), ((rw 0), .inl (cI, 241, .inl laws_c0)), ((rw 1), .inl (cI, 241, .inl laws_c1)), ((rw 2), .inl (cI, 241, .inl laws_c2)), ((rw 3), .inl (cI, 241, .inl laws_c3)), (oX9 a_S (.ref a_S_cells) (.ref a_told) (.ref a_laws)), (a_S_cells, .inl (cI, 69, .inl S_cells_24))] H locs := hw
  cases hf
  exact retV C hw dX9_meet_81
set_option maxHeartbeats 4000000 in
set_option maxRecDepth 100000 in
theorem k_X9_meet {l : Launch} {sx : List sx_T} {D : va_G} {cI cZ cO : ClassId} (a_told : Nat) (a_told_house : Nat) (a_told_free : Nat) (a_told_stuffed : Nat) (a_told_after : Nat) (a_told_weight : Nat) (a_told_need : Nat) (a_laws : Nat) (a_laws_codes : Nat) (a_laws_lengths : Nat) (a_laws_letters : Nat) (a_laws_stack : Nat) (a_S : Nat) (a_S_cells : Nat) (rw : Nat → Nat) (told_gloves : Int32) (told_matters : Int32) (told_pride : Int32) (told_coins : Int32) (told_after : Nat → Int32) (told_need : Nat → Int32) (laws_size : Int32) (laws_holds : Int32) (laws_lengths : Nat → Int32) (laws_c0 : Nat → Int32) (laws_c1 : Nat → Int32) (laws_c2 : Nat → Int32) (laws_c3 : Nat → Int32) (o_laws_letters : Nat → Int32) (o_laws_stack : Nat → Int32) (o_S_cells : Nat → Int32) (laws_letters : Nat → Int32) (laws_stack : Nat → Int32) (S_cells : Nat → Int32) (p1 : Int32) (p2 : Int32) (hF : f_X9_meet told_matters told_after told_need laws_holds laws_lengths laws_c0 laws_c1 laws_c2 laws_c3 laws_letters laws_stack S_cells p1 p2 = some (o_laws_letters, o_laws_stack, o_S_cells)) : CtV l yX9_meet wsX9_meet rm_X9_meet sx D (tyL cI cZ cO) [.ref a_S, .int p1, .int p2] [(oX5 a_told (.int told_gloves) (.int told_matters) (.int told_pride) (.int told_coins) (.ref a_told_house) (.ref a_told_free) (.ref a_told_stuffed) (.ref a_told_after) (.ref a_told_weight) (.ref a_told_need)), (a_told_after, .inl (cI, 6, .inl told_after)), (a_told_need, .inl (cI, 5, .inl told_need)), (oX2 a_laws (.int laws_size) (.int laws_holds) (.ref a_laws_codes) (.ref a_laws_lengths) (.ref a_laws_letters) (.ref a_laws_stack)), (a_laws_codes, .inl (cO, 4, .inr (.inr (.inr (.inr (rwF rw)))))), (a_laws_lengths, .inl (cI, 4, .inl laws_lengths)), (a_laws_letters, .inl (cI, 6, .inl laws_letters)), (a_laws_stack, .inl (cI, 241, .inl laws_stack)), ((rw 0), .inl (cI, 241, .inl laws_c0)), ((rw 1), .inl (cI, 241, .inl laws_c1)), ((rw 2), .inl (cI, 241, .inl laws_c2)), ((rw 3), .inl (cI, 241, .inl laws_c3)), (oX9 a_S (.ref a_S_cells) (.ref a_told) (.ref a_laws)), (a_S_cells, .inl (cI, 69, .inl S_cells))] [(oX5 a_told (.int told_gloves) (.int told_matters) (.int told_pride) (.int told_coins) (.ref a_told_house) (.ref a_told_free) (.ref a_told_stuffed) (.ref a_told_after) (.ref a_told_weight) (.ref a_told_need)), (a_told_after, .inl (cI, 6, .inl told_after)), (a_told_need, .inl (cI, 5, .inl told_need)), (oX2 a_laws (.int laws_size) (.int laws_holds) (.ref a_laws_codes) (.ref a_laws_lengths) (.ref a_laws_letters) (.ref a_laws_stack)), (a_laws_codes, .inl (cO, 4, .inr (.inr (.inr (.inr (rwF rw)))))), (a_laws_lengths, .inl (cI, 4, .inl laws_lengths)), (a_laws_letters, .inl (cI, 6, .inl o_laws_letters)), (a_laws_stack, .inl (cI, 241, .inl o_laws_stack)), ((rw 0), .inl (cI, 241, .inl laws_c0)), ((rw 1), .inl (cI, 241, .inl laws_c1)), ((rw 2), .inl (cI, 241, .inl laws_c2)), ((rw 3), .inl (cI, 241, .inl laws_c3)), (oX9 a_S (.ref a_S_cells) (.ref a_told) (.ref a_laws)), (a_S_cells, .inl (cI, 69, .inl o_S_cells))] := by
  refine ctV_of (cc := cX9_meet) (ret := none) (maxL := 4) (by decide) rfl (Nat.le_of_ble_eq_true rfl) ?_
  intro p e s m below meth c A ls C K hw hl
  exact q_X9_meet_0 C K a_told a_told_house a_told_free a_told_stuffed a_told_after a_told_weight a_told_need a_laws a_laws_codes a_laws_lengths a_laws_letters a_laws_stack a_S a_S_cells rw told_gloves told_matters told_pride told_coins told_after told_need laws_size laws_holds laws_lengths laws_c0 laws_c1 laws_c2 laws_c3 o_laws_letters o_laws_stack o_S_cells laws_letters laws_stack S_cells p1 p2 hF hw (lv_sub hl [0, 1, 2] rfl)
abbrev rm_X9_setFree : Room := { frames := 0, cells := 0, slots := 0, locals := 0 }
theorem in_X9_setFree_X9 : ∀ w ∈ u_ws RX9 TX9 3, w ∈ wsX9_setFree := fun w h => List.mem_cons_of_mem _ (bi_wsX90 w h)
theorem lk_X9_setFree_0 : Cond.fieldLink RX9 11 "GloveHouses$State" "cells" "[I" ∈ wsX9_setFree := List.mem_cons_of_mem _ (bi_wsL_law0_r5 _ (List.mem_of_getElem? (i := 11) rfl))
set_option maxHeartbeats 4000000 in
set_option maxRecDepth 100000 in
theorem q_X9_setFree_0 {p : Program} {l : Launch} {e : Env} {s : State} {m : MethodId} {args : Array Value} {below : List Frame} {meth : Method} {c : Code} {sx : List sx_T} {D : va_G} {cI cZ cO : ClassId} {A : Nat → Prop} (C : Cx p s m args meth c RX9 wsX9_setFree cX9_setFree 3 none) (K : Kx sx D (tyL cI cZ cO) A s) (a_S : Nat) (a_S_cells : Nat) (a_told : Nat) (a_laws : Nat) (o_S_cells : Nat → Int32)    (S_cells : Nat → Int32) (v1 : Int32) (v2 : Int32) {H : Heap} {locs : List Loc} {ls : Array Slot} (hf : b_X9_setFree_0   S_cells v1 v2 = some o_S_cells) (hw : Wo D A s [(oX9 a_S (.ref a_S_cells) (.ref a_told) (.ref a_laws)), (a_S_cells, .inl (cI, 69, .inl S_cells))] H locs) (hl : lv_has ls 3 [(0, .ref a_S), (1, .int v1), (2, .int v2)]) : W p l e rm_X9_setFree s m args below meth c H locs 0 0 (MQ below (QcV D A [(oX9 a_S (.ref a_S_cells) (.ref a_told) (.ref a_laws)), (a_S_cells, .inl (cI, 69, .inl o_S_cells))]) args s 0 0 A) (F0 m 0 ls []) := by
  obtain ⟨hx, hb, hml, hown, hts, hr, hlk⟩ := id C
  obtain ⟨hK, hX, hA⟩ := id K
  unfold b_X9_setFree_0 at hf
  refine lv_aload_n hx hb dX9_setFree_0 rfl (lv_at hl 0 rfl) ?_
  refine va_get (ci := 9) (v := .ref a_S_cells) (C := RX9) (T := TX9) (N := 3) hx hb hts in_X9_setFree_X9 hown hK hw.1 0 rfl rfl 0 (by decide) (hts _ lk_X9_setFree_0) (fun _ h9 => h9) rfl dX9_setFree_1 ?_
  refine lv_bipush (v := (36 : Int32)) hx hb dX9_setFree_4 (by decide) ?_
  refine lv_iload_n hx hb dX9_setFree_6 rfl (lv_at hl 1 rfl) ?_
  refine lv_iadd hx hb dX9_setFree_7 ?_
  refine lv_iload_n hx hb dX9_setFree_8 rfl (lv_at hl 2 rfl) ?_
  obtain ⟨hc_1, hf⟩ := gd_some hf
  obtain ⟨S_cells_2, e_S_cells_2, hf⟩ := bnd_some hf
  refine va_iast hx hb hK hw.1 hw.2.1 hw.2.2 1 0 rfl rfl (inB_in hc_1) dX9_setFree_9 (fun H locs hP hD hS => ?_)
  have hw : Wo D A s [(oX9 a_S (.ref a_S_cells) (.ref a_told) (.ref a_laws)), (a_S_cells, .inl (cI, 69, .inl S_cells_2))] H locs := by rw [e_S_cells_2]; exact ⟨hP, hD, hS⟩
  cases hf
  exact retV C hw dX9_setFree_10
set_option maxHeartbeats 4000000 in
set_option maxRecDepth 100000 in
theorem k_X9_setFree {l : Launch} {sx : List sx_T} {D : va_G} {cI cZ cO : ClassId} (a_S : Nat) (a_S_cells : Nat) (a_told : Nat) (a_laws : Nat) (o_S_cells : Nat → Int32) (S_cells : Nat → Int32) (p1 : Int32) (p2 : Int32) (hF : f_X9_setFree S_cells p1 p2 = some o_S_cells) : CtV l yX9_setFree wsX9_setFree rm_X9_setFree sx D (tyL cI cZ cO) [.ref a_S, .int p1, .int p2] [(oX9 a_S (.ref a_S_cells) (.ref a_told) (.ref a_laws)), (a_S_cells, .inl (cI, 69, .inl S_cells))] [(oX9 a_S (.ref a_S_cells) (.ref a_told) (.ref a_laws)), (a_S_cells, .inl (cI, 69, .inl o_S_cells))] := by
  refine ctV_of (cc := cX9_setFree) (ret := none) (maxL := 3) (by decide) rfl (Nat.le_of_ble_eq_true rfl) ?_
  intro p e s m below meth c A ls C K hw hl
  exact q_X9_setFree_0 C K a_S a_S_cells a_told a_laws o_S_cells S_cells p1 p2 hF hw (lv_sub hl [0, 1, 2] rfl)
abbrev rm_X9_setStuffed : Room := { frames := 0, cells := 0, slots := 0, locals := 0 }
theorem in_X9_setStuffed_X9 : ∀ w ∈ u_ws RX9 TX9 3, w ∈ wsX9_setStuffed := fun w h => List.mem_cons_of_mem _ (bi_wsX90 w h)
theorem lk_X9_setStuffed_0 : Cond.fieldLink RX9 11 "GloveHouses$State" "cells" "[I" ∈ wsX9_setStuffed := List.mem_cons_of_mem _ (bi_wsL_law0_r5 _ (List.mem_of_getElem? (i := 11) rfl))
set_option maxHeartbeats 4000000 in
set_option maxRecDepth 100000 in
theorem q_X9_setStuffed_0 {p : Program} {l : Launch} {e : Env} {s : State} {m : MethodId} {args : Array Value} {below : List Frame} {meth : Method} {c : Code} {sx : List sx_T} {D : va_G} {cI cZ cO : ClassId} {A : Nat → Prop} (C : Cx p s m args meth c RX9 wsX9_setStuffed cX9_setStuffed 3 none) (K : Kx sx D (tyL cI cZ cO) A s) (a_S : Nat) (a_S_cells : Nat) (a_told : Nat) (a_laws : Nat) (o_S_cells : Nat → Int32)    (S_cells : Nat → Int32) (v1 : Int32) (v2 : Int32) {H : Heap} {locs : List Loc} {ls : Array Slot} (hf : b_X9_setStuffed_0   S_cells v1 v2 = some o_S_cells) (hw : Wo D A s [(oX9 a_S (.ref a_S_cells) (.ref a_told) (.ref a_laws)), (a_S_cells, .inl (cI, 69, .inl S_cells))] H locs) (hl : lv_has ls 3 [(0, .ref a_S), (1, .int v1), (2, .int v2)]) : W p l e rm_X9_setStuffed s m args below meth c H locs 0 0 (MQ below (QcV D A [(oX9 a_S (.ref a_S_cells) (.ref a_told) (.ref a_laws)), (a_S_cells, .inl (cI, 69, .inl o_S_cells))]) args s 0 0 A) (F0 m 0 ls []) := by
  obtain ⟨hx, hb, hml, hown, hts, hr, hlk⟩ := id C
  obtain ⟨hK, hX, hA⟩ := id K
  unfold b_X9_setStuffed_0 at hf
  refine lv_aload_n hx hb dX9_setStuffed_0 rfl (lv_at hl 0 rfl) ?_
  refine va_get (ci := 9) (v := .ref a_S_cells) (C := RX9) (T := TX9) (N := 3) hx hb hts in_X9_setStuffed_X9 hown hK hw.1 0 rfl rfl 0 (by decide) (hts _ lk_X9_setStuffed_0) (fun _ h9 => h9) rfl dX9_setStuffed_1 ?_
  refine lv_bipush (v := (42 : Int32)) hx hb dX9_setStuffed_4 (by decide) ?_
  refine lv_iload_n hx hb dX9_setStuffed_6 rfl (lv_at hl 1 rfl) ?_
  refine lv_iadd hx hb dX9_setStuffed_7 ?_
  refine lv_iload_n hx hb dX9_setStuffed_8 rfl (lv_at hl 2 rfl) ?_
  obtain ⟨hc_1, hf⟩ := gd_some hf
  obtain ⟨S_cells_2, e_S_cells_2, hf⟩ := bnd_some hf
  refine va_iast hx hb hK hw.1 hw.2.1 hw.2.2 1 0 rfl rfl (inB_in hc_1) dX9_setStuffed_9 (fun H locs hP hD hS => ?_)
  have hw : Wo D A s [(oX9 a_S (.ref a_S_cells) (.ref a_told) (.ref a_laws)), (a_S_cells, .inl (cI, 69, .inl S_cells_2))] H locs := by rw [e_S_cells_2]; exact ⟨hP, hD, hS⟩
  cases hf
  exact retV C hw dX9_setStuffed_10
set_option maxHeartbeats 4000000 in
set_option maxRecDepth 100000 in
theorem k_X9_setStuffed {l : Launch} {sx : List sx_T} {D : va_G} {cI cZ cO : ClassId} (a_S : Nat) (a_S_cells : Nat) (a_told : Nat) (a_laws : Nat) (o_S_cells : Nat → Int32) (S_cells : Nat → Int32) (p1 : Int32) (p2 : Int32) (hF : f_X9_setStuffed S_cells p1 p2 = some o_S_cells) : CtV l yX9_setStuffed wsX9_setStuffed rm_X9_setStuffed sx D (tyL cI cZ cO) [.ref a_S, .int p1, .int p2] [(oX9 a_S (.ref a_S_cells) (.ref a_told) (.ref a_laws)), (a_S_cells, .inl (cI, 69, .inl S_cells))] [(oX9 a_S (.ref a_S_cells) (.ref a_told) (.ref a_laws)), (a_S_cells, .inl (cI, 69, .inl o_S_cells))] := by
  refine ctV_of (cc := cX9_setStuffed) (ret := none) (maxL := 3) (by decide) rfl (Nat.le_of_ble_eq_true rfl) ?_
  intro p e s m below meth c A ls C K hw hl
  exact q_X9_setStuffed_0 C K a_S a_S_cells a_told a_laws o_S_cells S_cells p1 p2 hF hw (lv_sub hl [0, 1, 2] rfl)
abbrev rm_X9_setPride : Room := { frames := 0, cells := 0, slots := 0, locals := 0 }
theorem in_X9_setPride_X9 : ∀ w ∈ u_ws RX9 TX9 3, w ∈ wsX9_setPride := fun w h => List.mem_cons_of_mem _ (bi_wsX90 w h)
theorem lk_X9_setPride_0 : Cond.fieldLink RX9 11 "GloveHouses$State" "cells" "[I" ∈ wsX9_setPride := List.mem_cons_of_mem _ (bi_wsL_law0_r5 _ (List.mem_of_getElem? (i := 11) rfl))
set_option maxHeartbeats 4000000 in
set_option maxRecDepth 100000 in
theorem q_X9_setPride_0 {p : Program} {l : Launch} {e : Env} {s : State} {m : MethodId} {args : Array Value} {below : List Frame} {meth : Method} {c : Code} {sx : List sx_T} {D : va_G} {cI cZ cO : ClassId} {A : Nat → Prop} (C : Cx p s m args meth c RX9 wsX9_setPride cX9_setPride 2 none) (K : Kx sx D (tyL cI cZ cO) A s) (a_S : Nat) (a_S_cells : Nat) (a_told : Nat) (a_laws : Nat) (o_S_cells : Nat → Int32)    (S_cells : Nat → Int32) (v1 : Int32) {H : Heap} {locs : List Loc} {ls : Array Slot} (hf : b_X9_setPride_0   S_cells v1 = some o_S_cells) (hw : Wo D A s [(oX9 a_S (.ref a_S_cells) (.ref a_told) (.ref a_laws)), (a_S_cells, .inl (cI, 69, .inl S_cells))] H locs) (hl : lv_has ls 2 [(0, .ref a_S), (1, .int v1)]) : W p l e rm_X9_setPride s m args below meth c H locs 0 0 (MQ below (QcV D A [(oX9 a_S (.ref a_S_cells) (.ref a_told) (.ref a_laws)), (a_S_cells, .inl (cI, 69, .inl o_S_cells))]) args s 0 0 A) (F0 m 0 ls []) := by
  obtain ⟨hx, hb, hml, hown, hts, hr, hlk⟩ := id C
  obtain ⟨hK, hX, hA⟩ := id K
  unfold b_X9_setPride_0 at hf
  refine lv_aload_n hx hb dX9_setPride_0 rfl (lv_at hl 0 rfl) ?_
  refine va_get (ci := 9) (v := .ref a_S_cells) (C := RX9) (T := TX9) (N := 3) hx hb hts in_X9_setPride_X9 hown hK hw.1 0 rfl rfl 0 (by decide) (hts _ lk_X9_setPride_0) (fun _ h9 => h9) rfl dX9_setPride_1 ?_
  refine lv_bipush (v := (66 : Int32)) hx hb dX9_setPride_4 (by decide) ?_
  refine lv_iload_n hx hb dX9_setPride_6 rfl (lv_at hl 1 rfl) ?_
  obtain ⟨hc_1, hf⟩ := gd_some hf
  obtain ⟨S_cells_2, e_S_cells_2, hf⟩ := bnd_some hf
  refine va_iast hx hb hK hw.1 hw.2.1 hw.2.2 1 0 rfl rfl (inB_in hc_1) dX9_setPride_7 (fun H locs hP hD hS => ?_)
  have hw : Wo D A s [(oX9 a_S (.ref a_S_cells) (.ref a_told) (.ref a_laws)), (a_S_cells, .inl (cI, 69, .inl S_cells_2))] H locs := by rw [e_S_cells_2]; exact ⟨hP, hD, hS⟩
  cases hf
  exact retV C hw dX9_setPride_8
set_option maxHeartbeats 4000000 in
set_option maxRecDepth 100000 in
theorem k_X9_setPride {l : Launch} {sx : List sx_T} {D : va_G} {cI cZ cO : ClassId} (a_S : Nat) (a_S_cells : Nat) (a_told : Nat) (a_laws : Nat) (o_S_cells : Nat → Int32) (S_cells : Nat → Int32) (p1 : Int32) (hF : f_X9_setPride S_cells p1 = some o_S_cells) : CtV l yX9_setPride wsX9_setPride rm_X9_setPride sx D (tyL cI cZ cO) [.ref a_S, .int p1] [(oX9 a_S (.ref a_S_cells) (.ref a_told) (.ref a_laws)), (a_S_cells, .inl (cI, 69, .inl S_cells))] [(oX9 a_S (.ref a_S_cells) (.ref a_told) (.ref a_laws)), (a_S_cells, .inl (cI, 69, .inl o_S_cells))] := by
  refine ctV_of (cc := cX9_setPride) (ret := none) (maxL := 2) (by decide) rfl (Nat.le_of_ble_eq_true rfl) ?_
  intro p e s m below meth c A ls C K hw hl
  exact q_X9_setPride_0 C K a_S a_S_cells a_told a_laws o_S_cells S_cells p1 hF hw (lv_sub hl [0, 1] rfl)
abbrev rm_X9_tearUp : Room := { frames := 0, cells := 0, slots := 0, locals := 0 }
theorem in_X9_tearUp_X9 : ∀ w ∈ u_ws RX9 TX9 3, w ∈ wsX9_tearUp := fun w h => List.mem_cons_of_mem _ (bi_wsX90 w h)
theorem lk_X9_tearUp_0 : Cond.fieldLink RX9 11 "GloveHouses$State" "cells" "[I" ∈ wsX9_tearUp := List.mem_cons_of_mem _ (bi_wsL_law0_r5 _ (List.mem_of_getElem? (i := 11) rfl))
set_option maxHeartbeats 4000000 in
set_option maxRecDepth 100000 in
theorem q_X9_tearUp_0 {p : Program} {l : Launch} {e : Env} {s : State} {m : MethodId} {args : Array Value} {below : List Frame} {meth : Method} {c : Code} {sx : List sx_T} {D : va_G} {cI cZ cO : ClassId} {A : Nat → Prop} (C : Cx p s m args meth c RX9 wsX9_tearUp cX9_tearUp 2 none) (K : Kx sx D (tyL cI cZ cO) A s) (a_S : Nat) (a_S_cells : Nat) (a_told : Nat) (a_laws : Nat) (o_S_cells : Nat → Int32)    (S_cells : Nat → Int32) (v1 : Int32) {H : Heap} {locs : List Loc} {ls : Array Slot} (hf : b_X9_tearUp_0   S_cells v1 = some o_S_cells) (hw : Wo D A s [(oX9 a_S (.ref a_S_cells) (.ref a_told) (.ref a_laws)), (a_S_cells, .inl (cI, 69, .inl S_cells))] H locs) (hl : lv_has ls 2 [(0, .ref a_S), (1, .int v1)]) : W p l e rm_X9_tearUp s m args below meth c H locs 0 0 (MQ below (QcV D A [(oX9 a_S (.ref a_S_cells) (.ref a_told) (.ref a_laws)), (a_S_cells, .inl (cI, 69, .inl o_S_cells))]) args s 0 0 A) (F0 m 0 ls []) := by
  obtain ⟨hx, hb, hml, hown, hts, hr, hlk⟩ := id C
  obtain ⟨hK, hX, hA⟩ := id K
  unfold b_X9_tearUp_0 at hf
  refine lv_aload_n hx hb dX9_tearUp_0 rfl (lv_at hl 0 rfl) ?_
  refine va_get (ci := 9) (v := .ref a_S_cells) (C := RX9) (T := TX9) (N := 3) hx hb hts in_X9_tearUp_X9 hown hK hw.1 0 rfl rfl 0 (by decide) (hts _ lk_X9_tearUp_0) (fun _ h9 => h9) rfl dX9_tearUp_1 ?_
  refine lv_bipush (v := (60 : Int32)) hx hb dX9_tearUp_4 (by decide) ?_
  refine lv_iload_n hx hb dX9_tearUp_6 rfl (lv_at hl 1 rfl) ?_
  refine lv_iadd hx hb dX9_tearUp_7 ?_
  refine lv_iconst (v := (-1 : Int32)) hx hb dX9_tearUp_8 (by decide) ?_
  obtain ⟨hc_1, hf⟩ := gd_some hf
  obtain ⟨S_cells_2, e_S_cells_2, hf⟩ := bnd_some hf
  refine va_iast hx hb hK hw.1 hw.2.1 hw.2.2 1 0 rfl rfl (inB_in hc_1) dX9_tearUp_9 (fun H locs hP hD hS => ?_)
  have hw : Wo D A s [(oX9 a_S (.ref a_S_cells) (.ref a_told) (.ref a_laws)), (a_S_cells, .inl (cI, 69, .inl S_cells_2))] H locs := by rw [e_S_cells_2]; exact ⟨hP, hD, hS⟩
  cases hf
  exact retV C hw dX9_tearUp_10
set_option maxHeartbeats 4000000 in
set_option maxRecDepth 100000 in
theorem k_X9_tearUp {l : Launch} {sx : List sx_T} {D : va_G} {cI cZ cO : ClassId} (a_S : Nat) (a_S_cells : Nat) (a_told : Nat) (a_laws : Nat) (o_S_cells : Nat → Int32) (S_cells : Nat → Int32) (p1 : Int32) (hF : f_X9_tearUp S_cells p1 = some o_S_cells) : CtV l yX9_tearUp wsX9_tearUp rm_X9_tearUp sx D (tyL cI cZ cO) [.ref a_S, .int p1] [(oX9 a_S (.ref a_S_cells) (.ref a_told) (.ref a_laws)), (a_S_cells, .inl (cI, 69, .inl S_cells))] [(oX9 a_S (.ref a_S_cells) (.ref a_told) (.ref a_laws)), (a_S_cells, .inl (cI, 69, .inl o_S_cells))] := by
  refine ctV_of (cc := cX9_tearUp) (ret := none) (maxL := 2) (by decide) rfl (Nat.le_of_ble_eq_true rfl) ?_
  intro p e s m below meth c A ls C K hw hl
  exact q_X9_tearUp_0 C K a_S a_S_cells a_told a_laws o_S_cells S_cells p1 hF hw (lv_sub hl [0, 1] rfl)
abbrev rm_X9_growProud : Room := { frames := 1, cells := 0, slots := 0, locals := 23 }
theorem in_X9_growProud_X9 : ∀ w ∈ u_ws RX9 TX9 3, w ∈ wsX9_growProud := fun w h => List.mem_cons_of_mem _ (bi_wsX90 w h)
theorem lk_X9_growProud_0 : Cond.fieldLink RX9 11 "GloveHouses$State" "cells" "[I" ∈ wsX9_growProud := List.mem_cons_of_mem _ (bi_wsL_law0_r5 _ (List.mem_of_getElem? (i := 11) rfl))
theorem lk_X9_growProud_1 : Cond.methodLink RX9 44 Lib.Math.min.name ∈ wsX9_growProud := List.mem_cons_of_mem _ (bi_wsL_law0_r29 _ (List.mem_of_getElem? (i := 14) rfl))
theorem lk_X9_growProud_2 : Cond.static Lib.Math.min.name ∈ wsX9_growProud := List.mem_cons_of_mem _ (bi_wsL_law0_r27 _ (List.mem_of_getElem? (i := 18) rfl))
theorem lk_X9_growProud_3 : Cond.initialized "java/lang/Math" ∈ wsX9_growProud := List.mem_cons_of_mem _ (bi_wsL_law0_r27 _ (List.mem_of_getElem? (i := 19) rfl))
theorem lk_X9_growProud_4 : Cond.code Lib.Math.min.name Lib.Math.min.code 2 (some .int) ∈ wsX9_growProud := List.mem_cons_of_mem _ (bi_wsL_law0_r27 _ (List.mem_of_getElem? (i := 20) rfl))
set_option maxHeartbeats 4000000 in
set_option maxRecDepth 100000 in
theorem q_X9_growProud_0 {p : Program} {l : Launch} {e : Env} {s : State} {m : MethodId} {args : Array Value} {below : List Frame} {meth : Method} {c : Code} {sx : List sx_T} {D : va_G} {cI cZ cO : ClassId} {A : Nat → Prop} (C : Cx p s m args meth c RX9 wsX9_growProud cX9_growProud 1 none) (K : Kx sx D (tyL cI cZ cO) A s) (a_S : Nat) (a_S_cells : Nat) (a_told : Nat) (a_laws : Nat) (o_S_cells : Nat → Int32)    (S_cells : Nat → Int32) {H : Heap} {locs : List Loc} {ls : Array Slot} (hf : b_X9_growProud_0   S_cells = some o_S_cells) (hw : Wo D A s [(oX9 a_S (.ref a_S_cells) (.ref a_told) (.ref a_laws)), (a_S_cells, .inl (cI, 69, .inl S_cells))] H locs) (hl : lv_has ls 1 [(0, .ref a_S)]) : W p l e rm_X9_growProud s m args below meth c H locs 0 0 (MQ below (QcV D A [(oX9 a_S (.ref a_S_cells) (.ref a_told) (.ref a_laws)), (a_S_cells, .inl (cI, 69, .inl o_S_cells))]) args s 0 0 A) (F0 m 0 ls []) := by
  obtain ⟨hx, hb, hml, hown, hts, hr, hlk⟩ := id C
  obtain ⟨hK, hX, hA⟩ := id K
  unfold b_X9_growProud_0 at hf
  refine lv_aload_n hx hb dX9_growProud_0 rfl (lv_at hl 0 rfl) ?_
  refine va_get (ci := 9) (v := .ref a_S_cells) (C := RX9) (T := TX9) (N := 3) hx hb hts in_X9_growProud_X9 hown hK hw.1 0 rfl rfl 0 (by decide) (hts _ lk_X9_growProud_0) (fun _ h9 => h9) rfl dX9_growProud_1 ?_
  refine lv_bipush (v := (66 : Int32)) hx hb dX9_growProud_4 (by decide) ?_
  refine lv_bipush (v := (9 : Int32)) hx hb dX9_growProud_6 (by decide) ?_
  refine lv_aload_n hx hb dX9_growProud_8 rfl (lv_at hl 0 rfl) ?_
  refine va_get (ci := 9) (v := .ref a_S_cells) (C := RX9) (T := TX9) (N := 3) hx hb hts in_X9_growProud_X9 hown hK hw.1 0 rfl rfl 0 (by decide) (hts _ lk_X9_growProud_0) (fun _ h9 => h9) rfl dX9_growProud_9 ?_
  refine lv_bipush (v := (66 : Int32)) hx hb dX9_growProud_12 (by decide) ?_
  obtain ⟨hc_1, hf⟩ := gd_some hf
  refine va_iald hx hb hK hw.1 1 0 rfl rfl (inB_in hc_1) dX9_growProud_14 ?_
  refine lv_iconst (v := (1 : Int32)) hx hb dX9_growProud_15 (by decide) ?_
  refine lv_iadd hx hb dX9_growProud_16 ?_
  refine va_mmin hx hb (hml.trans hl.1.symm) hown (hts _ lk_X9_growProud_1) (hts _ lk_X9_growProud_2) (hts _ lk_X9_growProud_3) (hts _ lk_X9_growProud_4) (Nat.le_of_ble_eq_true rfl) (Nat.le_of_ble_eq_true rfl) (Nat.zero_le _) (Nat.zero_le _) dX9_growProud_17 ?_
  obtain ⟨n_2, e_n_2, hf⟩ := bnd_some hf
  refine lv_nmi e_n_2 ?_
  obtain ⟨hc_3, hf⟩ := gd_some hf
  obtain ⟨S_cells_4, e_S_cells_4, hf⟩ := bnd_some hf
  refine va_iast hx hb hK hw.1 hw.2.1 hw.2.2 1 0 rfl rfl (inB_in hc_3) dX9_growProud_20 (fun H locs hP hD hS => ?_)
  have hw : Wo D A s [(oX9 a_S (.ref a_S_cells) (.ref a_told) (.ref a_laws)), (a_S_cells, .inl (cI, 69, .inl S_cells_4))] H locs := by rw [e_S_cells_4]; exact ⟨hP, hD, hS⟩
  cases hf
  exact retV C hw dX9_growProud_21
set_option maxHeartbeats 4000000 in
set_option maxRecDepth 100000 in
theorem k_X9_growProud {l : Launch} {sx : List sx_T} {D : va_G} {cI cZ cO : ClassId} (a_S : Nat) (a_S_cells : Nat) (a_told : Nat) (a_laws : Nat) (o_S_cells : Nat → Int32) (S_cells : Nat → Int32) (hF : f_X9_growProud S_cells = some o_S_cells) : CtV l yX9_growProud wsX9_growProud rm_X9_growProud sx D (tyL cI cZ cO) [.ref a_S] [(oX9 a_S (.ref a_S_cells) (.ref a_told) (.ref a_laws)), (a_S_cells, .inl (cI, 69, .inl S_cells))] [(oX9 a_S (.ref a_S_cells) (.ref a_told) (.ref a_laws)), (a_S_cells, .inl (cI, 69, .inl o_S_cells))] := by
  refine ctV_of (cc := cX9_growProud) (ret := none) (maxL := 1) (by decide) rfl (Nat.le_of_ble_eq_true rfl) ?_
  intro p e s m below meth c A ls C K hw hl
  exact q_X9_growProud_0 C K a_S a_S_cells a_told a_laws o_S_cells S_cells hF hw (lv_sub hl [0] rfl)
abbrev rm_X9_cool : Room := { frames := 1, cells := 0, slots := 0, locals := 23 }
theorem in_X9_cool_X9 : ∀ w ∈ u_ws RX9 TX9 3, w ∈ wsX9_cool := fun w h => List.mem_cons_of_mem _ (bi_wsX90 w h)
theorem in_X9_cool_X5 : ∀ w ∈ u_ws RX5 TX5 10, w ∈ wsX9_cool := fun w h => List.mem_cons_of_mem _ (bi_wsX50 w h)
theorem lk_X9_cool_0 : Cond.fieldLink RX9 15 "GloveHouses$State" "told" "LGloveHouses$Peace;" ∈ wsX9_cool := List.mem_cons_of_mem _ (bi_wsL_law0_r5 _ (List.mem_of_getElem? (i := 12) rfl))
theorem lk_X9_cool_1 : Cond.fieldLink RX9 102 "GloveHouses$Peace" "gloves" "I" ∈ wsX9_cool := List.mem_cons_of_mem _ (bi_wsL_law0_r37 _ (List.mem_of_getElem? (i := 4) rfl))
theorem lk_X9_cool_2 : Cond.fieldLink RX9 11 "GloveHouses$State" "cells" "[I" ∈ wsX9_cool := List.mem_cons_of_mem _ (bi_wsL_law0_r5 _ (List.mem_of_getElem? (i := 11) rfl))
theorem lk_X9_cool_3 : Cond.methodLink RX9 44 Lib.Math.min.name ∈ wsX9_cool := List.mem_cons_of_mem _ (bi_wsL_law0_r29 _ (List.mem_of_getElem? (i := 14) rfl))
theorem lk_X9_cool_4 : Cond.static Lib.Math.min.name ∈ wsX9_cool := List.mem_cons_of_mem _ (bi_wsL_law0_r27 _ (List.mem_of_getElem? (i := 18) rfl))
theorem lk_X9_cool_5 : Cond.initialized "java/lang/Math" ∈ wsX9_cool := List.mem_cons_of_mem _ (bi_wsL_law0_r27 _ (List.mem_of_getElem? (i := 19) rfl))
theorem lk_X9_cool_6 : Cond.code Lib.Math.min.name Lib.Math.min.code 2 (some .int) ∈ wsX9_cool := List.mem_cons_of_mem _ (bi_wsL_law0_r27 _ (List.mem_of_getElem? (i := 20) rfl))
theorem lk_X9_cool_7 : Cond.initialized RX9 ∈ wsX9_cool := List.mem_cons_of_mem _ (bi_wsL_law0_r2 _ (List.mem_of_getElem? (i := 12) rfl))
theorem lk_X9_cool_8 : Cond.methodLink RX9 50 yX9_placeOf ∈ wsX9_cool := List.mem_cons_of_mem _ (bi_wsL_law0_r27 _ (List.mem_of_getElem? (i := 3) rfl))
theorem lk_X9_cool_9 : Cond.static yX9_placeOf ∈ wsX9_cool := List.mem_cons_of_mem _ (bi_wsL_law0_r27 _ (List.mem_of_getElem? (i := 4) rfl))
set_option maxHeartbeats 4000000 in
set_option maxRecDepth 100000 in
theorem q_X9_cool_66 {p : Program} {l : Launch} {e : Env} {s : State} {m : MethodId} {args : Array Value} {below : List Frame} {meth : Method} {c : Code} {sx : List sx_T} {D : va_G} {cI cZ cO : ClassId} {A : Nat → Prop} (C : Cx p s m args meth c RX9 wsX9_cool cX9_cool 4 none) (K : Kx sx D (tyL cI cZ cO) A s) (a_told : Nat) (a_told_house : Nat) (a_told_free : Nat) (a_told_stuffed : Nat) (a_told_after : Nat) (a_told_weight : Nat) (a_told_need : Nat) (a_S : Nat) (a_S_cells : Nat) (a_laws : Nat) (told_gloves : Int32) (told_matters : Int32) (told_pride : Int32) (told_coins : Int32) (o_S_cells : Nat → Int32)   (k2 : (Nat → Int32) → Int32 → Option ((Nat → Int32))) (hk2 : ∀ (S_cells : Nat → Int32) (v1 : Int32) (H : Heap) (locs : List Loc) (ls : Array Slot), k2 S_cells v1 = some o_S_cells → Wo D A s [(oX5 a_told (.int told_gloves) (.int told_matters) (.int told_pride) (.int told_coins) (.ref a_told_house) (.ref a_told_free) (.ref a_told_stuffed) (.ref a_told_after) (.ref a_told_weight) (.ref a_told_need)), (oX9 a_S (.ref a_S_cells) (.ref a_told) (.ref a_laws)), (a_S_cells, .inl (cI, 69, .inl S_cells))] H locs → lv_has ls 4 [(0, .ref a_S), (1, .int v1)] → W p l e rm_X9_cool s m args below meth c H locs 0 0 (MQ below (QcV D A [(oX5 a_told (.int told_gloves) (.int told_matters) (.int told_pride) (.int told_coins) (.ref a_told_house) (.ref a_told_free) (.ref a_told_stuffed) (.ref a_told_after) (.ref a_told_weight) (.ref a_told_need)), (oX9 a_S (.ref a_S_cells) (.ref a_told) (.ref a_laws)), (a_S_cells, .inl (cI, 69, .inl o_S_cells))]) args s 0 0 A) (F0 m 2 ls [])) (k17 : (Nat → Int32) → Int32 → Int32 → Option ((Nat → Int32))) (hk17 : ∀ (S_cells : Nat → Int32) (v1 : Int32) (v2 : Int32) (H : Heap) (locs : List Loc) (ls : Array Slot), k17 S_cells v1 v2 = some o_S_cells → Wo D A s [(oX5 a_told (.int told_gloves) (.int told_matters) (.int told_pride) (.int told_coins) (.ref a_told_house) (.ref a_told_free) (.ref a_told_stuffed) (.ref a_told_after) (.ref a_told_weight) (.ref a_told_need)), (oX9 a_S (.ref a_S_cells) (.ref a_told) (.ref a_laws)), (a_S_cells, .inl (cI, 69, .inl S_cells))] H locs → lv_has ls 4 [(0, .ref a_S), (1, .int v1), (2, .int v2)] → W p l e rm_X9_cool s m args below meth c H locs 0 0 (MQ below (QcV D A [(oX5 a_told (.int told_gloves) (.int told_matters) (.int told_pride) (.int told_coins) (.ref a_told_house) (.ref a_told_free) (.ref a_told_stuffed) (.ref a_told_after) (.ref a_told_weight) (.ref a_told_need)), (oX9 a_S (.ref a_S_cells) (.ref a_told) (.ref a_laws)), (a_S_cells, .inl (cI, 69, .inl o_S_cells))]) args s 0 0 A) (F0 m 17 ls [])) (S_cells : Nat → Int32) (v1 : Int32) (v2 : Int32) {H : Heap} {locs : List Loc} {ls : Array Slot} (hf : b_X9_cool_66 told_gloves k2 k17 S_cells v1 v2 = some o_S_cells) (hw : Wo D A s [(oX5 a_told (.int told_gloves) (.int told_matters) (.int told_pride) (.int told_coins) (.ref a_told_house) (.ref a_told_free) (.ref a_told_stuffed) (.ref a_told_after) (.ref a_told_weight) (.ref a_told_need)), (oX9 a_S (.ref a_S_cells) (.ref a_told) (.ref a_laws)), (a_S_cells, .inl (cI, 69, .inl S_cells))] H locs) (hl : lv_has ls 4 [(0, .ref a_S), (1, .int v1), (2, .int v2)]) : W p l e rm_X9_cool s m args below meth c H locs 0 0 (MQ below (QcV D A [(oX5 a_told (.int told_gloves) (.int told_matters) (.int told_pride) (.int told_coins) (.ref a_told_house) (.ref a_told_free) (.ref a_told_stuffed) (.ref a_told_after) (.ref a_told_weight) (.ref a_told_need)), (oX9 a_S (.ref a_S_cells) (.ref a_told) (.ref a_laws)), (a_S_cells, .inl (cI, 69, .inl o_S_cells))]) args s 0 0 A) (F0 m 66 ls []) := by
  obtain ⟨hx, hb, hml, hown, hts, hr, hlk⟩ := id C
  obtain ⟨hK, hX, hA⟩ := id K
  unfold b_X9_cool_66 at hf
  obtain ⟨v2_1, e_v2_1, hf⟩ := bnd_some hf
  refine lv_iinc (v := v2_1) (lv' := [(2, .int v2_1), (0, .ref a_S), (1, .int v1)]) hx hb dX9_cool_66 hl (k := 2) rfl (by rw [e_v2_1]; rfl) (by decide) rfl (fun ls hl => ?_)
  refine lv_goto (tgt := 17) hx hb dX9_cool_69 (by decide) ?_
  exact hk17 S_cells v1 v2_1 _ _ _ hf hw (lv_sub hl [1, 2, 0] rfl)
set_option maxHeartbeats 4000000 in
set_option maxRecDepth 100000 in
theorem q_X9_cool_17 {p : Program} {l : Launch} {e : Env} {s : State} {m : MethodId} {args : Array Value} {below : List Frame} {meth : Method} {c : Code} {sx : List sx_T} {D : va_G} {cI cZ cO : ClassId} {A : Nat → Prop} (C : Cx p s m args meth c RX9 wsX9_cool cX9_cool 4 none) (K : Kx sx D (tyL cI cZ cO) A s) (a_told : Nat) (a_told_house : Nat) (a_told_free : Nat) (a_told_stuffed : Nat) (a_told_after : Nat) (a_told_weight : Nat) (a_told_need : Nat) (a_S : Nat) (a_S_cells : Nat) (a_laws : Nat) (told_gloves : Int32) (told_matters : Int32) (told_pride : Int32) (told_coins : Int32) (o_S_cells : Nat → Int32)   (k2 : (Nat → Int32) → Int32 → Option ((Nat → Int32))) (hk2 : ∀ (S_cells : Nat → Int32) (v1 : Int32) (H : Heap) (locs : List Loc) (ls : Array Slot), k2 S_cells v1 = some o_S_cells → Wo D A s [(oX5 a_told (.int told_gloves) (.int told_matters) (.int told_pride) (.int told_coins) (.ref a_told_house) (.ref a_told_free) (.ref a_told_stuffed) (.ref a_told_after) (.ref a_told_weight) (.ref a_told_need)), (oX9 a_S (.ref a_S_cells) (.ref a_told) (.ref a_laws)), (a_S_cells, .inl (cI, 69, .inl S_cells))] H locs → lv_has ls 4 [(0, .ref a_S), (1, .int v1)] → W p l e rm_X9_cool s m args below meth c H locs 0 0 (MQ below (QcV D A [(oX5 a_told (.int told_gloves) (.int told_matters) (.int told_pride) (.int told_coins) (.ref a_told_house) (.ref a_told_free) (.ref a_told_stuffed) (.ref a_told_after) (.ref a_told_weight) (.ref a_told_need)), (oX9 a_S (.ref a_S_cells) (.ref a_told) (.ref a_laws)), (a_S_cells, .inl (cI, 69, .inl o_S_cells))]) args s 0 0 A) (F0 m 2 ls [])) (k17 : (Nat → Int32) → Int32 → Int32 → Option ((Nat → Int32))) (hk17 : ∀ (S_cells : Nat → Int32) (v1 : Int32) (v2 : Int32) (H : Heap) (locs : List Loc) (ls : Array Slot), k17 S_cells v1 v2 = some o_S_cells → Wo D A s [(oX5 a_told (.int told_gloves) (.int told_matters) (.int told_pride) (.int told_coins) (.ref a_told_house) (.ref a_told_free) (.ref a_told_stuffed) (.ref a_told_after) (.ref a_told_weight) (.ref a_told_need)), (oX9 a_S (.ref a_S_cells) (.ref a_told) (.ref a_laws)), (a_S_cells, .inl (cI, 69, .inl S_cells))] H locs → lv_has ls 4 [(0, .ref a_S), (1, .int v1), (2, .int v2)] → W p l e rm_X9_cool s m args below meth c H locs 0 0 (MQ below (QcV D A [(oX5 a_told (.int told_gloves) (.int told_matters) (.int told_pride) (.int told_coins) (.ref a_told_house) (.ref a_told_free) (.ref a_told_stuffed) (.ref a_told_after) (.ref a_told_weight) (.ref a_told_need)), (oX9 a_S (.ref a_S_cells) (.ref a_told) (.ref a_laws)), (a_S_cells, .inl (cI, 69, .inl o_S_cells))]) args s 0 0 A) (F0 m 17 ls [])) (S_cells : Nat → Int32) (v1 : Int32) (v2 : Int32) {H : Heap} {locs : List Loc} {ls : Array Slot} (hf : b_X9_cool_17 told_gloves k2 k17 S_cells v1 v2 = some o_S_cells) (hw : Wo D A s [(oX5 a_told (.int told_gloves) (.int told_matters) (.int told_pride) (.int told_coins) (.ref a_told_house) (.ref a_told_free) (.ref a_told_stuffed) (.ref a_told_after) (.ref a_told_weight) (.ref a_told_need)), (oX9 a_S (.ref a_S_cells) (.ref a_told) (.ref a_laws)), (a_S_cells, .inl (cI, 69, .inl S_cells))] H locs) (hl : lv_has ls 4 [(0, .ref a_S), (1, .int v1), (2, .int v2)]) : W p l e rm_X9_cool s m args below meth c H locs 0 0 (MQ below (QcV D A [(oX5 a_told (.int told_gloves) (.int told_matters) (.int told_pride) (.int told_coins) (.ref a_told_house) (.ref a_told_free) (.ref a_told_stuffed) (.ref a_told_after) (.ref a_told_weight) (.ref a_told_need)), (oX9 a_S (.ref a_S_cells) (.ref a_told) (.ref a_laws)), (a_S_cells, .inl (cI, 69, .inl o_S_cells))]) args s 0 0 A) (F0 m 17 ls []) := by
  obtain ⟨hx, hb, hml, hown, hts, hr, hlk⟩ := id C
  obtain ⟨hK, hX, hA⟩ := id K
  unfold b_X9_cool_17 at hf
  refine lv_iload_n hx hb dX9_cool_17 rfl (lv_at hl 2 rfl) ?_
  refine lv_aload_n hx hb dX9_cool_18 rfl (lv_at hl 0 rfl) ?_
  refine va_get (ci := 9) (v := .ref a_told) (C := RX9) (T := TX9) (N := 3) hx hb hts in_X9_cool_X9 hown hK hw.1 1 rfl rfl 1 (by decide) (hts _ lk_X9_cool_0) (fun _ h9 => h9) rfl dX9_cool_19 ?_
  refine va_get (ci := 5) (v := .int told_gloves) (C := RX5) (T := TX5) (N := 10) hx hb hts in_X9_cool_X5 hown hK hw.1 0 rfl rfl 0 (by decide) (hts _ lk_X9_cool_1) (fun _ h9 => h9) rfl dX9_cool_22 ?_
  refine lv_icmp_ge (tgt := 72) hx hb dX9_cool_25 (by decide) (fun hc => ?_) (fun hc => ?_)
  · have hf := (if_pos hc).symm.trans hf
    obtain ⟨v1_1, e_v1_1, hf⟩ := bnd_some hf
    refine lv_iinc (v := v1_1) (lv' := [(1, .int v1_1), (0, .ref a_S), (2, .int v2)]) hx hb dX9_cool_72 hl (k := 1) rfl (by rw [e_v1_1]; rfl) (by decide) rfl (fun ls hl => ?_)
    refine lv_goto (tgt := 2) hx hb dX9_cool_75 (by decide) ?_
    exact hk2 S_cells v1_1 _ _ _ hf hw (lv_sub hl [1, 0] rfl)
  · have hf := (if_neg hc).symm.trans hf
    refine lv_iload_n hx hb dX9_cool_28 rfl (lv_at hl 1 rfl) ?_
    refine lv_iload_n hx hb dX9_cool_29 rfl (lv_at hl 2 rfl) ?_
    obtain ⟨r_2, hg_3, hf⟩ := ob1_some hf
    refine cl_SiA (As := [.int v1, .int v2]) (rest := []) C K hw (k_X9_placeOf r_2 v1 v2 hg_3) [] rfl (by decide) rfl rfl ⟨callB_of 2 hts (fun w h => gX9_cool_X9_placeOf w (List.mem_append_right _ h)) rfl rfl rfl (hts _ lk_X9_cool_7) (hts _ lk_X9_cool_8) (by decide +kernel) ⟨Nat.le_of_ble_eq_true rfl, Nat.le_of_ble_eq_true rfl⟩, hts _ lk_X9_cool_9⟩ rfl hl rfl (Nat.le_of_ble_eq_true rfl) dX9_cool_30 ⟨Nat.zero_le _, Nat.zero_le _⟩ (fun H locs hw => ?_)
    have hw : Wo D A s [(oX5 a_told (.int told_gloves) (.int told_matters) (.int told_pride) (.int told_coins) (.ref a_told_house) (.ref a_told_free) (.ref a_told_stuffed) (.ref a_told_after) (.ref a_told_weight) (.ref a_told_need)), (oX9 a_S (.ref a_S_cells) (.ref a_told) (.ref a_laws)), (a_S_cells, .inl (cI, 69, .inl S_cells))] H locs := hw
    refine lv_istore_n (lv' := [(3, .int r_2), (0, .ref a_S), (1, .int v1), (2, .int v2)]) hx hb dX9_cool_33 rfl hl (by decide) rfl (fun ls hl => ?_)
    refine lv_aload_n hx hb dX9_cool_34 rfl (lv_at hl 1 rfl) ?_
    refine va_get (ci := 9) (v := .ref a_S_cells) (C := RX9) (T := TX9) (N := 3) hx hb hts in_X9_cool_X9 hown hK hw.1 1 rfl rfl 0 (by decide) (hts _ lk_X9_cool_2) (fun _ h9 => h9) rfl dX9_cool_35 ?_
    refine lv_bipush (v := (54 : Int32)) hx hb dX9_cool_38 (by decide) ?_
    refine lv_iload_n hx hb dX9_cool_40 rfl (lv_at hl 2 rfl) ?_
    refine lv_iadd hx hb dX9_cool_41 ?_
    obtain ⟨hc_4, hf⟩ := gd_some hf
    refine va_iald hx hb hK hw.1 2 0 rfl rfl (inB_in hc_4) dX9_cool_42 ?_
    refine lv_iload_n hx hb dX9_cool_43 rfl (lv_at hl 3 rfl) ?_
    refine lv_icmp_eq (tgt := 66) hx hb dX9_cool_44 (by decide) (fun hc => ?_) (fun hc => ?_)
    · have hf := (if_pos hc).symm.trans hf
      exact q_X9_cool_66 C K a_told a_told_house a_told_free a_told_stuffed a_told_after a_told_weight a_told_need a_S a_S_cells a_laws told_gloves told_matters told_pride told_coins o_S_cells k2 hk2 k17 hk17 S_cells v1 v2 hf hw (lv_sub hl [1, 2, 3] rfl)
    · have hf := (if_neg hc).symm.trans hf
      refine lv_aload_n hx hb dX9_cool_47 rfl (lv_at hl 1 rfl) ?_
      refine va_get (ci := 9) (v := .ref a_S_cells) (C := RX9) (T := TX9) (N := 3) hx hb hts in_X9_cool_X9 hown hK hw.1 1 rfl rfl 0 (by decide) (hts _ lk_X9_cool_2) (fun _ h9 => h9) rfl dX9_cool_48 ?_
      refine lv_iload_n hx hb dX9_cool_51 rfl (lv_at hl 0 rfl) ?_
      obtain ⟨hc_5, hf⟩ := gd_some hf
      refine va_iald hx hb hK hw.1 2 0 rfl rfl (inB_in hc_5) dX9_cool_52 ?_
      refine lv_if_le (tgt := 66) hx hb dX9_cool_53 (by decide) (fun hc => ?_) (fun hc => ?_)
      · have hf := (if_pos hc).symm.trans hf
        exact q_X9_cool_66 C K a_told a_told_house a_told_free a_told_stuffed a_told_after a_told_weight a_told_need a_S a_S_cells a_laws told_gloves told_matters told_pride told_coins o_S_cells k2 hk2 k17 hk17 S_cells v1 v2 hf hw (lv_sub hl [1, 2, 3] rfl)
      · have hf := (if_neg hc).symm.trans hf
        refine lv_aload_n hx hb dX9_cool_56 rfl (lv_at hl 1 rfl) ?_
        refine va_get (ci := 9) (v := .ref a_S_cells) (C := RX9) (T := TX9) (N := 3) hx hb hts in_X9_cool_X9 hown hK hw.1 1 rfl rfl 0 (by decide) (hts _ lk_X9_cool_2) (fun _ h9 => h9) rfl dX9_cool_57 ?_
        refine lv_iload_n hx hb dX9_cool_60 rfl (lv_at hl 0 rfl) ?_
        refine lv_dup2_11 hx hb dX9_cool_61 rfl rfl ?_
        obtain ⟨hc_6, hf⟩ := gd_some hf
        refine va_iald hx hb hK hw.1 2 0 rfl rfl (inB_in hc_6) dX9_cool_62 ?_
        refine lv_iconst (v := (1 : Int32)) hx hb dX9_cool_63 (by decide) ?_
        refine lv_isub hx hb dX9_cool_64 ?_
        obtain ⟨hc_7, hf⟩ := gd_some hf
        obtain ⟨S_cells_8, e_S_cells_8, hf⟩ := bnd_some hf
        refine va_iast hx hb hK hw.1 hw.2.1 hw.2.2 2 0 rfl rfl (inB_in hc_7) dX9_cool_65 (fun H locs hP hD hS => ?_)
        have hw : Wo D A s [(oX5 a_told (.int told_gloves) (.int told_matters) (.int told_pride) (.int told_coins) (.ref a_told_house) (.ref a_told_free) (.ref a_told_stuffed) (.ref a_told_after) (.ref a_told_weight) (.ref a_told_need)), (oX9 a_S (.ref a_S_cells) (.ref a_told) (.ref a_laws)), (a_S_cells, .inl (cI, 69, .inl S_cells_8))] H locs := by rw [e_S_cells_8]; exact ⟨hP, hD, hS⟩
        exact q_X9_cool_66 C K a_told a_told_house a_told_free a_told_stuffed a_told_after a_told_weight a_told_need a_S a_S_cells a_laws told_gloves told_matters told_pride told_coins o_S_cells k2 hk2 k17 hk17 S_cells_8 v1 v2 hf hw (lv_sub hl [1, 2, 3] rfl)
theorem qf_X9_cool_17 {p : Program} {l : Launch} {e : Env} {s : State} {m : MethodId} {args : Array Value} {below : List Frame} {meth : Method} {c : Code} {sx : List sx_T} {D : va_G} {cI cZ cO : ClassId} {A : Nat → Prop} (C : Cx p s m args meth c RX9 wsX9_cool cX9_cool 4 none) (K : Kx sx D (tyL cI cZ cO) A s) (a_told : Nat) (a_told_house : Nat) (a_told_free : Nat) (a_told_stuffed : Nat) (a_told_after : Nat) (a_told_weight : Nat) (a_told_need : Nat) (a_S : Nat) (a_S_cells : Nat) (a_laws : Nat) (told_gloves : Int32) (told_matters : Int32) (told_pride : Int32) (told_coins : Int32) (o_S_cells : Nat → Int32)   (k2 : (Nat → Int32) → Int32 → Option ((Nat → Int32))) (hk2 : ∀ (S_cells : Nat → Int32) (v1 : Int32) (H : Heap) (locs : List Loc) (ls : Array Slot), k2 S_cells v1 = some o_S_cells → Wo D A s [(oX5 a_told (.int told_gloves) (.int told_matters) (.int told_pride) (.int told_coins) (.ref a_told_house) (.ref a_told_free) (.ref a_told_stuffed) (.ref a_told_after) (.ref a_told_weight) (.ref a_told_need)), (oX9 a_S (.ref a_S_cells) (.ref a_told) (.ref a_laws)), (a_S_cells, .inl (cI, 69, .inl S_cells))] H locs → lv_has ls 4 [(0, .ref a_S), (1, .int v1)] → W p l e rm_X9_cool s m args below meth c H locs 0 0 (MQ below (QcV D A [(oX5 a_told (.int told_gloves) (.int told_matters) (.int told_pride) (.int told_coins) (.ref a_told_house) (.ref a_told_free) (.ref a_told_stuffed) (.ref a_told_after) (.ref a_told_weight) (.ref a_told_need)), (oX9 a_S (.ref a_S_cells) (.ref a_told) (.ref a_laws)), (a_S_cells, .inl (cI, 69, .inl o_S_cells))]) args s 0 0 A) (F0 m 2 ls [])) (n : Nat) : ∀ (S_cells : Nat → Int32) (v1 : Int32) (v2 : Int32) (H : Heap) (locs : List Loc) (ls : Array Slot), f_X9_cool_17 told_gloves k2 n S_cells v1 v2 = some o_S_cells → Wo D A s [(oX5 a_told (.int told_gloves) (.int told_matters) (.int told_pride) (.int told_coins) (.ref a_told_house) (.ref a_told_free) (.ref a_told_stuffed) (.ref a_told_after) (.ref a_told_weight) (.ref a_told_need)), (oX9 a_S (.ref a_S_cells) (.ref a_told) (.ref a_laws)), (a_S_cells, .inl (cI, 69, .inl S_cells))] H locs → lv_has ls 4 [(0, .ref a_S), (1, .int v1), (2, .int v2)] → W p l e rm_X9_cool s m args below meth c H locs 0 0 (MQ below (QcV D A [(oX5 a_told (.int told_gloves) (.int told_matters) (.int told_pride) (.int told_coins) (.ref a_told_house) (.ref a_told_free) (.ref a_told_stuffed) (.ref a_told_after) (.ref a_told_weight) (.ref a_told_need)), (oX9 a_S (.ref a_S_cells) (.ref a_told) (.ref a_laws)), (a_S_cells, .inl (cI, 69, .inl o_S_cells))]) args s 0 0 A) (F0 m 17 ls []) := by
  induction n with
  | zero =>
    intro S_cells v1 v2 H locs ls hf
    have h9 : (none : Option ((Nat → Int32))) = some o_S_cells := hf
    cases h9
  | succ n ih =>
    intro S_cells v1 v2 H locs ls hf hw hl
    exact q_X9_cool_17 C K a_told a_told_house a_told_free a_told_stuffed a_told_after a_told_weight a_told_need a_S a_S_cells a_laws told_gloves told_matters told_pride told_coins o_S_cells k2 hk2 (f_X9_cool_17 told_gloves k2 n) ih S_cells v1 v2 hf hw hl
set_option maxHeartbeats 4000000 in
set_option maxRecDepth 100000 in
theorem q_X9_cool_2 {p : Program} {l : Launch} {e : Env} {s : State} {m : MethodId} {args : Array Value} {below : List Frame} {meth : Method} {c : Code} {sx : List sx_T} {D : va_G} {cI cZ cO : ClassId} {A : Nat → Prop} (C : Cx p s m args meth c RX9 wsX9_cool cX9_cool 4 none) (K : Kx sx D (tyL cI cZ cO) A s) (a_told : Nat) (a_told_house : Nat) (a_told_free : Nat) (a_told_stuffed : Nat) (a_told_after : Nat) (a_told_weight : Nat) (a_told_need : Nat) (a_S : Nat) (a_S_cells : Nat) (a_laws : Nat) (told_gloves : Int32) (told_matters : Int32) (told_pride : Int32) (told_coins : Int32) (o_S_cells : Nat → Int32)   (k2 : (Nat → Int32) → Int32 → Option ((Nat → Int32))) (hk2 : ∀ (S_cells : Nat → Int32) (v1 : Int32) (H : Heap) (locs : List Loc) (ls : Array Slot), k2 S_cells v1 = some o_S_cells → Wo D A s [(oX5 a_told (.int told_gloves) (.int told_matters) (.int told_pride) (.int told_coins) (.ref a_told_house) (.ref a_told_free) (.ref a_told_stuffed) (.ref a_told_after) (.ref a_told_weight) (.ref a_told_need)), (oX9 a_S (.ref a_S_cells) (.ref a_told) (.ref a_laws)), (a_S_cells, .inl (cI, 69, .inl S_cells))] H locs → lv_has ls 4 [(0, .ref a_S), (1, .int v1)] → W p l e rm_X9_cool s m args below meth c H locs 0 0 (MQ below (QcV D A [(oX5 a_told (.int told_gloves) (.int told_matters) (.int told_pride) (.int told_coins) (.ref a_told_house) (.ref a_told_free) (.ref a_told_stuffed) (.ref a_told_after) (.ref a_told_weight) (.ref a_told_need)), (oX9 a_S (.ref a_S_cells) (.ref a_told) (.ref a_laws)), (a_S_cells, .inl (cI, 69, .inl o_S_cells))]) args s 0 0 A) (F0 m 2 ls [])) (S_cells : Nat → Int32) (v1 : Int32) {H : Heap} {locs : List Loc} {ls : Array Slot} (hf : b_X9_cool_2 told_gloves k2 S_cells v1 = some o_S_cells) (hw : Wo D A s [(oX5 a_told (.int told_gloves) (.int told_matters) (.int told_pride) (.int told_coins) (.ref a_told_house) (.ref a_told_free) (.ref a_told_stuffed) (.ref a_told_after) (.ref a_told_weight) (.ref a_told_need)), (oX9 a_S (.ref a_S_cells) (.ref a_told) (.ref a_laws)), (a_S_cells, .inl (cI, 69, .inl S_cells))] H locs) (hl : lv_has ls 4 [(0, .ref a_S), (1, .int v1)]) : W p l e rm_X9_cool s m args below meth c H locs 0 0 (MQ below (QcV D A [(oX5 a_told (.int told_gloves) (.int told_matters) (.int told_pride) (.int told_coins) (.ref a_told_house) (.ref a_told_free) (.ref a_told_stuffed) (.ref a_told_after) (.ref a_told_weight) (.ref a_told_need)), (oX9 a_S (.ref a_S_cells) (.ref a_told) (.ref a_laws)), (a_S_cells, .inl (cI, 69, .inl o_S_cells))]) args s 0 0 A) (F0 m 2 ls []) := by
  obtain ⟨hx, hb, hml, hown, hts, hr, hlk⟩ := id C
  obtain ⟨hK, hX, hA⟩ := id K
  unfold b_X9_cool_2 at hf
  refine lv_iload_n hx hb dX9_cool_2 rfl (lv_at hl 1 rfl) ?_
  refine lv_aload_n hx hb dX9_cool_3 rfl (lv_at hl 0 rfl) ?_
  refine va_get (ci := 9) (v := .ref a_told) (C := RX9) (T := TX9) (N := 3) hx hb hts in_X9_cool_X9 hown hK hw.1 1 rfl rfl 1 (by decide) (hts _ lk_X9_cool_0) (fun _ h9 => h9) rfl dX9_cool_4 ?_
  refine va_get (ci := 5) (v := .int told_gloves) (C := RX5) (T := TX5) (N := 10) hx hb hts in_X9_cool_X5 hown hK hw.1 0 rfl rfl 0 (by decide) (hts _ lk_X9_cool_1) (fun _ h9 => h9) rfl dX9_cool_7 ?_
  refine lv_icmp_ge (tgt := 78) hx hb dX9_cool_10 (by decide) (fun hc => ?_) (fun hc => ?_)
  · have hf := (if_pos hc).symm.trans hf
    refine lv_aload_n hx hb dX9_cool_78 rfl (lv_at hl 0 rfl) ?_
    refine va_get (ci := 9) (v := .ref a_S_cells) (C := RX9) (T := TX9) (N := 3) hx hb hts in_X9_cool_X9 hown hK hw.1 1 rfl rfl 0 (by decide) (hts _ lk_X9_cool_2) (fun _ h9 => h9) rfl dX9_cool_79 ?_
    refine lv_bipush (v := (67 : Int32)) hx hb dX9_cool_82 (by decide) ?_
    refine lv_sipush (v := (999 : Int32)) hx hb dX9_cool_84 (by decide) ?_
    refine lv_aload_n hx hb dX9_cool_87 rfl (lv_at hl 0 rfl) ?_
    refine va_get (ci := 9) (v := .ref a_S_cells) (C := RX9) (T := TX9) (N := 3) hx hb hts in_X9_cool_X9 hown hK hw.1 1 rfl rfl 0 (by decide) (hts _ lk_X9_cool_2) (fun _ h9 => h9) rfl dX9_cool_88 ?_
    refine lv_bipush (v := (67 : Int32)) hx hb dX9_cool_91 (by decide) ?_
    obtain ⟨hc_1, hf⟩ := gd_some hf
    refine va_iald hx hb hK hw.1 2 0 rfl rfl (inB_in hc_1) dX9_cool_93 ?_
    refine lv_iconst (v := (2 : Int32)) hx hb dX9_cool_94 (by decide) ?_
    refine lv_iadd hx hb dX9_cool_95 ?_
    refine va_mmin hx hb (hml.trans hl.1.symm) hown (hts _ lk_X9_cool_3) (hts _ lk_X9_cool_4) (hts _ lk_X9_cool_5) (hts _ lk_X9_cool_6) (Nat.le_of_ble_eq_true rfl) (Nat.le_of_ble_eq_true rfl) (Nat.zero_le _) (Nat.zero_le _) dX9_cool_96 ?_
    obtain ⟨n_2, e_n_2, hf⟩ := bnd_some hf
    refine lv_nmi e_n_2 ?_
    obtain ⟨hc_3, hf⟩ := gd_some hf
    obtain ⟨S_cells_4, e_S_cells_4, hf⟩ := bnd_some hf
    refine va_iast hx hb hK hw.1 hw.2.1 hw.2.2 2 0 rfl rfl (inB_in hc_3) dX9_cool_99 (fun H locs hP hD hS => ?_)
    have hw : Wo D A s [(oX5 a_told (.int told_gloves) (.int told_matters) (.int told_pride) (.int told_coins) (.ref a_told_house) (.ref a_told_free) (.ref a_told_stuffed) (.ref a_told_after) (.ref a_told_weight) (.ref a_told_need)), (oX9 a_S (.ref a_S_cells) (.ref a_told) (.ref a_laws)), (a_S_cells, .inl (cI, 69, .inl S_cells_4))] H locs := by rw [e_S_cells_4]; exact ⟨hP, hD, hS⟩
    clear hk2; cases hf
    exact retV C hw dX9_cool_100
  · have hf := (if_neg hc).symm.trans hf
    refine lv_iload_n hx hb dX9_cool_13 rfl (lv_at hl 1 rfl) ?_
    refine lv_iconst (v := (1 : Int32)) hx hb dX9_cool_14 (by decide) ?_
    refine lv_iadd hx hb dX9_cool_15 ?_
    obtain ⟨v2_5, e_v2_5, hf⟩ := bnd_some hf
    refine lv_nmi e_v2_5 ?_
    refine lv_istore_n (lv' := [(2, .int v2_5), (0, .ref a_S), (1, .int v1)]) hx hb dX9_cool_16 rfl hl (by decide) rfl (fun ls hl => ?_)
    exact qf_X9_cool_17 C K a_told a_told_house a_told_free a_told_stuffed a_told_after a_told_weight a_told_need a_S a_S_cells a_laws told_gloves told_matters told_pride told_coins o_S_cells k2 hk2 fu S_cells v1 v2_5 _ _ _ hf hw (lv_sub hl [1, 2, 0] rfl)
theorem qf_X9_cool_2 {p : Program} {l : Launch} {e : Env} {s : State} {m : MethodId} {args : Array Value} {below : List Frame} {meth : Method} {c : Code} {sx : List sx_T} {D : va_G} {cI cZ cO : ClassId} {A : Nat → Prop} (C : Cx p s m args meth c RX9 wsX9_cool cX9_cool 4 none) (K : Kx sx D (tyL cI cZ cO) A s) (a_told : Nat) (a_told_house : Nat) (a_told_free : Nat) (a_told_stuffed : Nat) (a_told_after : Nat) (a_told_weight : Nat) (a_told_need : Nat) (a_S : Nat) (a_S_cells : Nat) (a_laws : Nat) (told_gloves : Int32) (told_matters : Int32) (told_pride : Int32) (told_coins : Int32) (o_S_cells : Nat → Int32)    (n : Nat) : ∀ (S_cells : Nat → Int32) (v1 : Int32) (H : Heap) (locs : List Loc) (ls : Array Slot), f_X9_cool_2 told_gloves  n S_cells v1 = some o_S_cells → Wo D A s [(oX5 a_told (.int told_gloves) (.int told_matters) (.int told_pride) (.int told_coins) (.ref a_told_house) (.ref a_told_free) (.ref a_told_stuffed) (.ref a_told_after) (.ref a_told_weight) (.ref a_told_need)), (oX9 a_S (.ref a_S_cells) (.ref a_told) (.ref a_laws)), (a_S_cells, .inl (cI, 69, .inl S_cells))] H locs → lv_has ls 4 [(0, .ref a_S), (1, .int v1)] → W p l e rm_X9_cool s m args below meth c H locs 0 0 (MQ below (QcV D A [(oX5 a_told (.int told_gloves) (.int told_matters) (.int told_pride) (.int told_coins) (.ref a_told_house) (.ref a_told_free) (.ref a_told_stuffed) (.ref a_told_after) (.ref a_told_weight) (.ref a_told_need)), (oX9 a_S (.ref a_S_cells) (.ref a_told) (.ref a_laws)), (a_S_cells, .inl (cI, 69, .inl o_S_cells))]) args s 0 0 A) (F0 m 2 ls []) := by
  induction n with
  | zero =>
    intro S_cells v1 H locs ls hf
    have h9 : (none : Option ((Nat → Int32))) = some o_S_cells := hf
    cases h9
  | succ n ih =>
    intro S_cells v1 H locs ls hf hw hl
    exact q_X9_cool_2 C K a_told a_told_house a_told_free a_told_stuffed a_told_after a_told_weight a_told_need a_S a_S_cells a_laws told_gloves told_matters told_pride told_coins o_S_cells  (f_X9_cool_2 told_gloves  n) ih S_cells v1 hf hw hl
set_option maxHeartbeats 4000000 in
set_option maxRecDepth 100000 in
theorem q_X9_cool_0 {p : Program} {l : Launch} {e : Env} {s : State} {m : MethodId} {args : Array Value} {below : List Frame} {meth : Method} {c : Code} {sx : List sx_T} {D : va_G} {cI cZ cO : ClassId} {A : Nat → Prop} (C : Cx p s m args meth c RX9 wsX9_cool cX9_cool 4 none) (K : Kx sx D (tyL cI cZ cO) A s) (a_told : Nat) (a_told_house : Nat) (a_told_free : Nat) (a_told_stuffed : Nat) (a_told_after : Nat) (a_told_weight : Nat) (a_told_need : Nat) (a_S : Nat) (a_S_cells : Nat) (a_laws : Nat) (told_gloves : Int32) (told_matters : Int32) (told_pride : Int32) (told_coins : Int32) (o_S_cells : Nat → Int32)    (S_cells : Nat → Int32) {H : Heap} {locs : List Loc} {ls : Array Slot} (hf : b_X9_cool_0 told_gloves  S_cells = some o_S_cells) (hw : Wo D A s [(oX5 a_told (.int told_gloves) (.int told_matters) (.int told_pride) (.int told_coins) (.ref a_told_house) (.ref a_told_free) (.ref a_told_stuffed) (.ref a_told_after) (.ref a_told_weight) (.ref a_told_need)), (oX9 a_S (.ref a_S_cells) (.ref a_told) (.ref a_laws)), (a_S_cells, .inl (cI, 69, .inl S_cells))] H locs) (hl : lv_has ls 4 [(0, .ref a_S)]) : W p l e rm_X9_cool s m args below meth c H locs 0 0 (MQ below (QcV D A [(oX5 a_told (.int told_gloves) (.int told_matters) (.int told_pride) (.int told_coins) (.ref a_told_house) (.ref a_told_free) (.ref a_told_stuffed) (.ref a_told_after) (.ref a_told_weight) (.ref a_told_need)), (oX9 a_S (.ref a_S_cells) (.ref a_told) (.ref a_laws)), (a_S_cells, .inl (cI, 69, .inl o_S_cells))]) args s 0 0 A) (F0 m 0 ls []) := by
  obtain ⟨hx, hb, hml, hown, hts, hr, hlk⟩ := id C
  obtain ⟨hK, hX, hA⟩ := id K
  unfold b_X9_cool_0 at hf
  refine lv_iconst (v := (0 : Int32)) hx hb dX9_cool_0 (by decide) ?_
  refine lv_istore_n (lv' := [(1, .int (0 : Int32)), (0, .ref a_S)]) hx hb dX9_cool_1 rfl hl (by decide) rfl (fun ls hl => ?_)
  exact qf_X9_cool_2 C K a_told a_told_house a_told_free a_told_stuffed a_told_after a_told_weight a_told_need a_S a_S_cells a_laws told_gloves told_matters told_pride told_coins o_S_cells  fu S_cells (0 : Int32) _ _ _ hf hw (lv_sub hl [1, 0] rfl)
set_option maxHeartbeats 4000000 in
set_option maxRecDepth 100000 in
theorem k_X9_cool {l : Launch} {sx : List sx_T} {D : va_G} {cI cZ cO : ClassId} (a_told : Nat) (a_told_house : Nat) (a_told_free : Nat) (a_told_stuffed : Nat) (a_told_after : Nat) (a_told_weight : Nat) (a_told_need : Nat) (a_S : Nat) (a_S_cells : Nat) (a_laws : Nat) (told_gloves : Int32) (told_matters : Int32) (told_pride : Int32) (told_coins : Int32) (o_S_cells : Nat → Int32) (S_cells : Nat → Int32) (hF : f_X9_cool told_gloves S_cells = some o_S_cells) : CtV l yX9_cool wsX9_cool rm_X9_cool sx D (tyL cI cZ cO) [.ref a_S] [(oX5 a_told (.int told_gloves) (.int told_matters) (.int told_pride) (.int told_coins) (.ref a_told_house) (.ref a_told_free) (.ref a_told_stuffed) (.ref a_told_after) (.ref a_told_weight) (.ref a_told_need)), (oX9 a_S (.ref a_S_cells) (.ref a_told) (.ref a_laws)), (a_S_cells, .inl (cI, 69, .inl S_cells))] [(oX5 a_told (.int told_gloves) (.int told_matters) (.int told_pride) (.int told_coins) (.ref a_told_house) (.ref a_told_free) (.ref a_told_stuffed) (.ref a_told_after) (.ref a_told_weight) (.ref a_told_need)), (oX9 a_S (.ref a_S_cells) (.ref a_told) (.ref a_laws)), (a_S_cells, .inl (cI, 69, .inl o_S_cells))] := by
  refine ctV_of (cc := cX9_cool) (ret := none) (maxL := 4) (by decide) rfl (Nat.le_of_ble_eq_true rfl) ?_
  intro p e s m below meth c A ls C K hw hl
  exact q_X9_cool_0 C K a_told a_told_house a_told_free a_told_stuffed a_told_after a_told_weight a_told_need a_S a_S_cells a_laws told_gloves told_matters told_pride told_coins o_S_cells S_cells hF hw (lv_sub hl [0] rfl)
abbrev rm_X9_metBits : Room := { frames := 1, cells := 0, slots := 0, locals := 21 }
theorem in_X9_metBits_X9 : ∀ w ∈ u_ws RX9 TX9 3, w ∈ wsX9_metBits := fun w h => List.mem_cons_of_mem _ (bi_wsX90 w h)
theorem in_X9_metBits_X5 : ∀ w ∈ u_ws RX5 TX5 10, w ∈ wsX9_metBits := fun w h => List.mem_cons_of_mem _ (bi_wsX50 w h)
theorem lk_X9_metBits_0 : Cond.fieldLink RX9 15 "GloveHouses$State" "told" "LGloveHouses$Peace;" ∈ wsX9_metBits := List.mem_cons_of_mem _ (bi_wsL_law0_r5 _ (List.mem_of_getElem? (i := 12) rfl))
theorem lk_X9_metBits_1 : Cond.fieldLink RX9 102 "GloveHouses$Peace" "gloves" "I" ∈ wsX9_metBits := List.mem_cons_of_mem _ (bi_wsL_law0_r37 _ (List.mem_of_getElem? (i := 4) rfl))
set_option maxHeartbeats 4000000 in
set_option maxRecDepth 100000 in
theorem q_X9_metBits_29 {p : Program} {l : Launch} {e : Env} {s : State} {m : MethodId} {args : Array Value} {below : List Frame} {meth : Method} {c : Code} {sx : List sx_T} {D : va_G} {cI cZ cO : ClassId} {A : Nat → Prop} (C : Cx p s m args meth c RX9 wsX9_metBits cX9_metBits 3 (some .int)) (K : Kx sx D (tyL cI cZ cO) A s) (a_told : Nat) (a_told_house : Nat) (a_told_free : Nat) (a_told_stuffed : Nat) (a_told_after : Nat) (a_told_weight : Nat) (a_told_need : Nat) (a_S : Nat) (a_S_cells : Nat) (a_laws : Nat) (told_gloves : Int32) (told_matters : Int32) (told_pride : Int32) (told_coins : Int32) (S_cells : Nat → Int32) (r0 : Int32)   (k4 : Int32 → Int32 → Option (Int32)) (hk4 : ∀ (v1 : Int32) (v2 : Int32) (H : Heap) (locs : List Loc) (ls : Array Slot), k4 v1 v2 = some r0 → Wo D A s [(oX5 a_told (.int told_gloves) (.int told_matters) (.int told_pride) (.int told_coins) (.ref a_told_house) (.ref a_told_free) (.ref a_told_stuffed) (.ref a_told_after) (.ref a_told_weight) (.ref a_told_need)), (oX9 a_S (.ref a_S_cells) (.ref a_told) (.ref a_laws)), (a_S_cells, .inl (cI, 69, .inl S_cells))] H locs → lv_has ls 3 [(0, .ref a_S), (1, .int v1), (2, .int v2)] → W p l e rm_X9_metBits s m args below meth c H locs 0 0 (MQ below (QcI D A r0 [(oX5 a_told (.int told_gloves) (.int told_matters) (.int told_pride) (.int told_coins) (.ref a_told_house) (.ref a_told_free) (.ref a_told_stuffed) (.ref a_told_after) (.ref a_told_weight) (.ref a_told_need)), (oX9 a_S (.ref a_S_cells) (.ref a_told) (.ref a_laws)), (a_S_cells, .inl (cI, 69, .inl S_cells))]) args s 0 0 A) (F0 m 4 ls [])) (v1 : Int32) (v2 : Int32) {H : Heap} {locs : List Loc} {ls : Array Slot} (hf : b_X9_metBits_29 told_gloves S_cells k4 v1 v2 = some r0) (hw : Wo D A s [(oX5 a_told (.int told_gloves) (.int told_matters) (.int told_pride) (.int told_coins) (.ref a_told_house) (.ref a_told_free) (.ref a_told_stuffed) (.ref a_told_after) (.ref a_told_weight) (.ref a_told_need)), (oX9 a_S (.ref a_S_cells) (.ref a_told) (.ref a_laws)), (a_S_cells, .inl (cI, 69, .inl S_cells))] H locs) (hl : lv_has ls 3 [(0, .ref a_S), (1, .int v1), (2, .int v2)]) : W p l e rm_X9_metBits s m args below meth c H locs 0 0 (MQ below (QcI D A r0 [(oX5 a_told (.int told_gloves) (.int told_matters) (.int told_pride) (.int told_coins) (.ref a_told_house) (.ref a_told_free) (.ref a_told_stuffed) (.ref a_told_after) (.ref a_told_weight) (.ref a_told_need)), (oX9 a_S (.ref a_S_cells) (.ref a_told) (.ref a_laws)), (a_S_cells, .inl (cI, 69, .inl S_cells))]) args s 0 0 A) (F0 m 29 ls []) := by
  obtain ⟨hx, hb, hml, hown, hts, hr, hlk⟩ := id C
  obtain ⟨hK, hX, hA⟩ := id K
  unfold b_X9_metBits_29 at hf
  obtain ⟨v2_1, e_v2_1, hf⟩ := bnd_some hf
  refine lv_iinc (v := v2_1) (lv' := [(2, .int v2_1), (0, .ref a_S), (1, .int v1)]) hx hb dX9_metBits_29 hl (k := 2) rfl (by rw [e_v2_1]; rfl) (by decide) rfl (fun ls hl => ?_)
  refine lv_goto (tgt := 4) hx hb dX9_metBits_32 (by decide) ?_
  exact hk4 v1 v2_1 _ _ _ hf hw (lv_sub hl [1, 2, 0] rfl)
set_option maxHeartbeats 4000000 in
set_option maxRecDepth 100000 in
theorem q_X9_metBits_4 {p : Program} {l : Launch} {e : Env} {s : State} {m : MethodId} {args : Array Value} {below : List Frame} {meth : Method} {c : Code} {sx : List sx_T} {D : va_G} {cI cZ cO : ClassId} {A : Nat → Prop} (C : Cx p s m args meth c RX9 wsX9_metBits cX9_metBits 3 (some .int)) (K : Kx sx D (tyL cI cZ cO) A s) (a_told : Nat) (a_told_house : Nat) (a_told_free : Nat) (a_told_stuffed : Nat) (a_told_after : Nat) (a_told_weight : Nat) (a_told_need : Nat) (a_S : Nat) (a_S_cells : Nat) (a_laws : Nat) (told_gloves : Int32) (told_matters : Int32) (told_pride : Int32) (told_coins : Int32) (S_cells : Nat → Int32) (r0 : Int32)   (k4 : Int32 → Int32 → Option (Int32)) (hk4 : ∀ (v1 : Int32) (v2 : Int32) (H : Heap) (locs : List Loc) (ls : Array Slot), k4 v1 v2 = some r0 → Wo D A s [(oX5 a_told (.int told_gloves) (.int told_matters) (.int told_pride) (.int told_coins) (.ref a_told_house) (.ref a_told_free) (.ref a_told_stuffed) (.ref a_told_after) (.ref a_told_weight) (.ref a_told_need)), (oX9 a_S (.ref a_S_cells) (.ref a_told) (.ref a_laws)), (a_S_cells, .inl (cI, 69, .inl S_cells))] H locs → lv_has ls 3 [(0, .ref a_S), (1, .int v1), (2, .int v2)] → W p l e rm_X9_metBits s m args below meth c H locs 0 0 (MQ below (QcI D A r0 [(oX5 a_told (.int told_gloves) (.int told_matters) (.int told_pride) (.int told_coins) (.ref a_told_house) (.ref a_told_free) (.ref a_told_stuffed) (.ref a_told_after) (.ref a_told_weight) (.ref a_told_need)), (oX9 a_S (.ref a_S_cells) (.ref a_told) (.ref a_laws)), (a_S_cells, .inl (cI, 69, .inl S_cells))]) args s 0 0 A) (F0 m 4 ls [])) (v1 : Int32) (v2 : Int32) {H : Heap} {locs : List Loc} {ls : Array Slot} (hf : b_X9_metBits_4 told_gloves S_cells k4 v1 v2 = some r0) (hw : Wo D A s [(oX5 a_told (.int told_gloves) (.int told_matters) (.int told_pride) (.int told_coins) (.ref a_told_house) (.ref a_told_free) (.ref a_told_stuffed) (.ref a_told_after) (.ref a_told_weight) (.ref a_told_need)), (oX9 a_S (.ref a_S_cells) (.ref a_told) (.ref a_laws)), (a_S_cells, .inl (cI, 69, .inl S_cells))] H locs) (hl : lv_has ls 3 [(0, .ref a_S), (1, .int v1), (2, .int v2)]) : W p l e rm_X9_metBits s m args below meth c H locs 0 0 (MQ below (QcI D A r0 [(oX5 a_told (.int told_gloves) (.int told_matters) (.int told_pride) (.int told_coins) (.ref a_told_house) (.ref a_told_free) (.ref a_told_stuffed) (.ref a_told_after) (.ref a_told_weight) (.ref a_told_need)), (oX9 a_S (.ref a_S_cells) (.ref a_told) (.ref a_laws)), (a_S_cells, .inl (cI, 69, .inl S_cells))]) args s 0 0 A) (F0 m 4 ls []) := by
  obtain ⟨hx, hb, hml, hown, hts, hr, hlk⟩ := id C
  obtain ⟨hK, hX, hA⟩ := id K
  unfold b_X9_metBits_4 at hf
  refine lv_iload_n hx hb dX9_metBits_4 rfl (lv_at hl 2 rfl) ?_
  refine lv_aload_n hx hb dX9_metBits_5 rfl (lv_at hl 0 rfl) ?_
  refine va_get (ci := 9) (v := .ref a_told) (C := RX9) (T := TX9) (N := 3) hx hb hts in_X9_metBits_X9 hown hK hw.1 1 rfl rfl 1 (by decide) (hts _ lk_X9_metBits_0) (fun _ h9 => h9) rfl dX9_metBits_6 ?_
  refine va_get (ci := 5) (v := .int told_gloves) (C := RX5) (T := TX5) (N := 10) hx hb hts in_X9_metBits_X5 hown hK hw.1 0 rfl rfl 0 (by decide) (hts _ lk_X9_metBits_1) (fun _ h9 => h9) rfl dX9_metBits_9 ?_
  refine lv_icmp_ge (tgt := 35) hx hb dX9_metBits_12 (by decide) (fun hc => ?_) (fun hc => ?_)
  · have hf := (if_pos hc).symm.trans hf
    refine lv_iload_n hx hb dX9_metBits_35 rfl (lv_at hl 1 rfl) ?_
    clear hk4; cases hf
    exact retI C hw dX9_metBits_36 rfl
  · have hf := (if_neg hc).symm.trans hf
    refine lv_aload_n hx hb dX9_metBits_15 rfl (lv_at hl 0 rfl) ?_
    refine lv_iload_n hx hb dX9_metBits_16 rfl (lv_at hl 2 rfl) ?_
    obtain ⟨r_1, hg_2, hf⟩ := ob1_some hf
    refine cl_ViA (As := [.int v2]) (rest := []) C K hw (k_X9_hasMet a_S a_S_cells a_told a_laws S_cells r_1 v2 hg_2) [1, 2] rfl (by decide) rfl rfl (ci := 9) (j := 1) rfl rfl (cwV 1 hts gX9_metBits_X9_hasMet rfl rfl rfl (by decide +kernel) ⟨Nat.le_of_ble_eq_true rfl, Nat.le_of_ble_eq_true rfl⟩) rfl hl rfl (Nat.le_of_ble_eq_true rfl) dX9_metBits_17 ⟨Nat.zero_le _, Nat.zero_le _⟩ (fun H locs hw => ?_)
    have hw : Wo D A s [(oX5 a_told (.int told_gloves) (.int told_matters) (.int told_pride) (.int told_coins) (.ref a_told_house) (.ref a_told_free) (.ref a_told_stuffed) (.ref a_told_after) (.ref a_told_weight) (.ref a_told_need)), (oX9 a_S (.ref a_S_cells) (.ref a_told) (.ref a_laws)), (a_S_cells, .inl (cI, 69, .inl S_cells))] H locs := hw
    refine lv_if_eq (tgt := 29) hx hb dX9_metBits_20 (by decide) (fun hc => ?_) (fun hc => ?_)
    · have hf := (if_pos hc).symm.trans hf
      exact q_X9_metBits_29 C K a_told a_told_house a_told_free a_told_stuffed a_told_after a_told_weight a_told_need a_S a_S_cells a_laws told_gloves told_matters told_pride told_coins S_cells r0 k4 hk4 v1 v2 hf hw (lv_sub hl [0, 1, 2] rfl)
    · have hf := (if_neg hc).symm.trans hf
      refine lv_iload_n hx hb dX9_metBits_23 rfl (lv_at hl 1 rfl) ?_
      refine lv_iconst (v := (1 : Int32)) hx hb dX9_metBits_24 (by decide) ?_
      refine lv_iload_n hx hb dX9_metBits_25 rfl (lv_at hl 2 rfl) ?_
      refine lv_ishl hx hb dX9_metBits_26 ?_
      refine lv_ior hx hb dX9_metBits_27 ?_
      obtain ⟨v1_3, e_v1_3, hf⟩ := bnd_some hf
      refine lv_nmi e_v1_3 ?_
      refine lv_istore_n (lv' := [(1, .int v1_3), (0, .ref a_S), (2, .int v2)]) hx hb dX9_metBits_28 rfl hl (by decide) rfl (fun ls hl => ?_)
      exact q_X9_metBits_29 C K a_told a_told_house a_told_free a_told_stuffed a_told_after a_told_weight a_told_need a_S a_S_cells a_laws told_gloves told_matters told_pride told_coins S_cells r0 k4 hk4 v1_3 v2 hf hw (lv_sub hl [1, 0, 2] rfl)
theorem qf_X9_metBits_4 {p : Program} {l : Launch} {e : Env} {s : State} {m : MethodId} {args : Array Value} {below : List Frame} {meth : Method} {c : Code} {sx : List sx_T} {D : va_G} {cI cZ cO : ClassId} {A : Nat → Prop} (C : Cx p s m args meth c RX9 wsX9_metBits cX9_metBits 3 (some .int)) (K : Kx sx D (tyL cI cZ cO) A s) (a_told : Nat) (a_told_house : Nat) (a_told_free : Nat) (a_told_stuffed : Nat) (a_told_after : Nat) (a_told_weight : Nat) (a_told_need : Nat) (a_S : Nat) (a_S_cells : Nat) (a_laws : Nat) (told_gloves : Int32) (told_matters : Int32) (told_pride : Int32) (told_coins : Int32) (S_cells : Nat → Int32) (r0 : Int32)    (n : Nat) : ∀ (v1 : Int32) (v2 : Int32) (H : Heap) (locs : List Loc) (ls : Array Slot), f_X9_metBits_4 told_gloves S_cells  n v1 v2 = some r0 → Wo D A s [(oX5 a_told (.int told_gloves) (.int told_matters) (.int told_pride) (.int told_coins) (.ref a_told_house) (.ref a_told_free) (.ref a_told_stuffed) (.ref a_told_after) (.ref a_told_weight) (.ref a_told_need)), (oX9 a_S (.ref a_S_cells) (.ref a_told) (.ref a_laws)), (a_S_cells, .inl (cI, 69, .inl S_cells))] H locs → lv_has ls 3 [(0, .ref a_S), (1, .int v1), (2, .int v2)] → W p l e rm_X9_metBits s m args below meth c H locs 0 0 (MQ below (QcI D A r0 [(oX5 a_told (.int told_gloves) (.int told_matters) (.int told_pride) (.int told_coins) (.ref a_told_house) (.ref a_told_free) (.ref a_told_stuffed) (.ref a_told_after) (.ref a_told_weight) (.ref a_told_need)), (oX9 a_S (.ref a_S_cells) (.ref a_told) (.ref a_laws)), (a_S_cells, .inl (cI, 69, .inl S_cells))]) args s 0 0 A) (F0 m 4 ls []) := by
  induction n with
  | zero =>
    intro v1 v2 H locs ls hf
    have h9 : (none : Option (Int32)) = some r0 := hf
    cases h9
  | succ n ih =>
    intro v1 v2 H locs ls hf hw hl
    exact q_X9_metBits_4 C K a_told a_told_house a_told_free a_told_stuffed a_told_after a_told_weight a_told_need a_S a_S_cells a_laws told_gloves told_matters told_pride told_coins S_cells r0  (f_X9_metBits_4 told_gloves S_cells  n) ih v1 v2 hf hw hl
set_option maxHeartbeats 4000000 in
set_option maxRecDepth 100000 in
theorem q_X9_metBits_0 {p : Program} {l : Launch} {e : Env} {s : State} {m : MethodId} {args : Array Value} {below : List Frame} {meth : Method} {c : Code} {sx : List sx_T} {D : va_G} {cI cZ cO : ClassId} {A : Nat → Prop} (C : Cx p s m args meth c RX9 wsX9_metBits cX9_metBits 3 (some .int)) (K : Kx sx D (tyL cI cZ cO) A s) (a_told : Nat) (a_told_house : Nat) (a_told_free : Nat) (a_told_stuffed : Nat) (a_told_after : Nat) (a_told_weight : Nat) (a_told_need : Nat) (a_S : Nat) (a_S_cells : Nat) (a_laws : Nat) (told_gloves : Int32) (told_matters : Int32) (told_pride : Int32) (told_coins : Int32) (S_cells : Nat → Int32) (r0 : Int32)     {H : Heap} {locs : List Loc} {ls : Array Slot} (hf : b_X9_metBits_0 told_gloves S_cells   = some r0) (hw : Wo D A s [(oX5 a_told (.int told_gloves) (.int told_matters) (.int told_pride) (.int told_coins) (.ref a_told_house) (.ref a_told_free) (.ref a_told_stuffed) (.ref a_told_after) (.ref a_told_weight) (.ref a_told_need)), (oX9 a_S (.ref a_S_cells) (.ref a_told) (.ref a_laws)), (a_S_cells, .inl (cI, 69, .inl S_cells))] H locs) (hl : lv_has ls 3 [(0, .ref a_S)]) : W p l e rm_X9_metBits s m args below meth c H locs 0 0 (MQ below (QcI D A r0 [(oX5 a_told (.int told_gloves) (.int told_matters) (.int told_pride) (.int told_coins) (.ref a_told_house) (.ref a_told_free) (.ref a_told_stuffed) (.ref a_told_after) (.ref a_told_weight) (.ref a_told_need)), (oX9 a_S (.ref a_S_cells) (.ref a_told) (.ref a_laws)), (a_S_cells, .inl (cI, 69, .inl S_cells))]) args s 0 0 A) (F0 m 0 ls []) := by
  obtain ⟨hx, hb, hml, hown, hts, hr, hlk⟩ := id C
  obtain ⟨hK, hX, hA⟩ := id K
  unfold b_X9_metBits_0 at hf
  refine lv_iconst (v := (0 : Int32)) hx hb dX9_metBits_0 (by decide) ?_
  refine lv_istore_n (lv' := [(1, .int (0 : Int32)), (0, .ref a_S)]) hx hb dX9_metBits_1 rfl hl (by decide) rfl (fun ls hl => ?_)
  refine lv_iconst (v := (0 : Int32)) hx hb dX9_metBits_2 (by decide) ?_
  refine lv_istore_n (lv' := [(2, .int (0 : Int32)), (1, .int (0 : Int32)), (0, .ref a_S)]) hx hb dX9_metBits_3 rfl hl (by decide) rfl (fun ls hl => ?_)
  exact qf_X9_metBits_4 C K a_told a_told_house a_told_free a_told_stuffed a_told_after a_told_weight a_told_need a_S a_S_cells a_laws told_gloves told_matters told_pride told_coins S_cells r0  fu (0 : Int32) (0 : Int32) _ _ _ hf hw (lv_sub hl [2, 1, 0] rfl)
set_option maxHeartbeats 4000000 in
set_option maxRecDepth 100000 in
theorem k_X9_metBits {l : Launch} {sx : List sx_T} {D : va_G} {cI cZ cO : ClassId} (a_told : Nat) (a_told_house : Nat) (a_told_free : Nat) (a_told_stuffed : Nat) (a_told_after : Nat) (a_told_weight : Nat) (a_told_need : Nat) (a_S : Nat) (a_S_cells : Nat) (a_laws : Nat) (told_gloves : Int32) (told_matters : Int32) (told_pride : Int32) (told_coins : Int32) (S_cells : Nat → Int32) (r0 : Int32) (hF : f_X9_metBits told_gloves S_cells = some r0) : CtI l yX9_metBits wsX9_metBits rm_X9_metBits sx D (tyL cI cZ cO) [.ref a_S] [(oX5 a_told (.int told_gloves) (.int told_matters) (.int told_pride) (.int told_coins) (.ref a_told_house) (.ref a_told_free) (.ref a_told_stuffed) (.ref a_told_after) (.ref a_told_weight) (.ref a_told_need)), (oX9 a_S (.ref a_S_cells) (.ref a_told) (.ref a_laws)), (a_S_cells, .inl (cI, 69, .inl S_cells))] r0 [(oX5 a_told (.int told_gloves) (.int told_matters) (.int told_pride) (.int told_coins) (.ref a_told_house) (.ref a_told_free) (.ref a_told_stuffed) (.ref a_told_after) (.ref a_told_weight) (.ref a_told_need)), (oX9 a_S (.ref a_S_cells) (.ref a_told) (.ref a_laws)), (a_S_cells, .inl (cI, 69, .inl S_cells))] := by
  refine ctI_of (cc := cX9_metBits) (ret := (some .int)) (maxL := 3) (by decide) rfl (Nat.le_of_ble_eq_true rfl) ?_
  intro p e s m below meth c A ls C K hw hl
  exact q_X9_metBits_0 C K a_told a_told_house a_told_free a_told_stuffed a_told_after a_told_weight a_told_need a_S a_S_cells a_laws told_gloves told_matters told_pride told_coins S_cells r0  hF hw (lv_sub hl [0] rfl)
abbrev rm_X9_signedToday : Room := { frames := 0, cells := 0, slots := 0, locals := 0 }
theorem in_X9_signedToday_X9 : ∀ w ∈ u_ws RX9 TX9 3, w ∈ wsX9_signedToday := fun w h => List.mem_cons_of_mem _ (bi_wsX90 w h)
theorem lk_X9_signedToday_0 : Cond.fieldLink RX9 11 "GloveHouses$State" "cells" "[I" ∈ wsX9_signedToday := List.mem_cons_of_mem _ (bi_wsL_law0_r5 _ (List.mem_of_getElem? (i := 11) rfl))
set_option maxHeartbeats 4000000 in
set_option maxRecDepth 100000 in
theorem q_X9_signedToday_0 {p : Program} {l : Launch} {e : Env} {s : State} {m : MethodId} {args : Array Value} {below : List Frame} {meth : Method} {c : Code} {sx : List sx_T} {D : va_G} {cI cZ cO : ClassId} {A : Nat → Prop} (C : Cx p s m args meth c RX9 wsX9_signedToday cX9_signedToday 1 (some .int)) (K : Kx sx D (tyL cI cZ cO) A s) (a_S : Nat) (a_S_cells : Nat) (a_told : Nat) (a_laws : Nat) (S_cells : Nat → Int32) (r0 : Int32)     {H : Heap} {locs : List Loc} {ls : Array Slot} (hf : b_X9_signedToday_0 S_cells   = some r0) (hw : Wo D A s [(oX9 a_S (.ref a_S_cells) (.ref a_told) (.ref a_laws)), (a_S_cells, .inl (cI, 69, .inl S_cells))] H locs) (hl : lv_has ls 1 [(0, .ref a_S)]) : W p l e rm_X9_signedToday s m args below meth c H locs 0 0 (MQ below (QcI D A r0 [(oX9 a_S (.ref a_S_cells) (.ref a_told) (.ref a_laws)), (a_S_cells, .inl (cI, 69, .inl S_cells))]) args s 0 0 A) (F0 m 0 ls []) := by
  obtain ⟨hx, hb, hml, hown, hts, hr, hlk⟩ := id C
  obtain ⟨hK, hX, hA⟩ := id K
  unfold b_X9_signedToday_0 at hf
  refine lv_aload_n hx hb dX9_signedToday_0 rfl (lv_at hl 0 rfl) ?_
  refine va_get (ci := 9) (v := .ref a_S_cells) (C := RX9) (T := TX9) (N := 3) hx hb hts in_X9_signedToday_X9 hown hK hw.1 0 rfl rfl 0 (by decide) (hts _ lk_X9_signedToday_0) (fun _ h9 => h9) rfl dX9_signedToday_1 ?_
  refine lv_bipush (v := (65 : Int32)) hx hb dX9_signedToday_4 (by decide) ?_
  obtain ⟨hc_1, hf⟩ := gd_some hf
  refine va_iald hx hb hK hw.1 1 0 rfl rfl (inB_in hc_1) dX9_signedToday_6 ?_
  cases hf
  exact retI C hw dX9_signedToday_7 rfl
set_option maxHeartbeats 4000000 in
set_option maxRecDepth 100000 in
theorem k_X9_signedToday {l : Launch} {sx : List sx_T} {D : va_G} {cI cZ cO : ClassId} (a_S : Nat) (a_S_cells : Nat) (a_told : Nat) (a_laws : Nat) (S_cells : Nat → Int32) (r0 : Int32) (hF : f_X9_signedToday S_cells = some r0) : CtI l yX9_signedToday wsX9_signedToday rm_X9_signedToday sx D (tyL cI cZ cO) [.ref a_S] [(oX9 a_S (.ref a_S_cells) (.ref a_told) (.ref a_laws)), (a_S_cells, .inl (cI, 69, .inl S_cells))] r0 [(oX9 a_S (.ref a_S_cells) (.ref a_told) (.ref a_laws)), (a_S_cells, .inl (cI, 69, .inl S_cells))] := by
  refine ctI_of (cc := cX9_signedToday) (ret := (some .int)) (maxL := 1) (by decide) rfl (Nat.le_of_ble_eq_true rfl) ?_
  intro p e s m below meth c A ls C K hw hl
  exact q_X9_signedToday_0 C K a_S a_S_cells a_told a_laws S_cells r0  hF hw (lv_sub hl [0] rfl)
abbrev rm_X9_warmthOfAll : Room := { frames := 0, cells := 0, slots := 0, locals := 0 }
theorem in_X9_warmthOfAll_X9 : ∀ w ∈ u_ws RX9 TX9 3, w ∈ wsX9_warmthOfAll := fun w h => List.mem_cons_of_mem _ (bi_wsX90 w h)
theorem lk_X9_warmthOfAll_0 : Cond.fieldLink RX9 11 "GloveHouses$State" "cells" "[I" ∈ wsX9_warmthOfAll := List.mem_cons_of_mem _ (bi_wsL_law0_r5 _ (List.mem_of_getElem? (i := 11) rfl))
set_option maxHeartbeats 4000000 in
set_option maxRecDepth 100000 in
theorem q_X9_warmthOfAll_4 {p : Program} {l : Launch} {e : Env} {s : State} {m : MethodId} {args : Array Value} {below : List Frame} {meth : Method} {c : Code} {sx : List sx_T} {D : va_G} {cI cZ cO : ClassId} {A : Nat → Prop} (C : Cx p s m args meth c RX9 wsX9_warmthOfAll cX9_warmthOfAll 3 (some .int)) (K : Kx sx D (tyL cI cZ cO) A s) (a_S : Nat) (a_S_cells : Nat) (a_told : Nat) (a_laws : Nat) (S_cells : Nat → Int32) (r0 : Int32)   (k4 : Int32 → Int32 → Option (Int32)) (hk4 : ∀ (v1 : Int32) (v2 : Int32) (H : Heap) (locs : List Loc) (ls : Array Slot), k4 v1 v2 = some r0 → Wo D A s [(oX9 a_S (.ref a_S_cells) (.ref a_told) (.ref a_laws)), (a_S_cells, .inl (cI, 69, .inl S_cells))] H locs → lv_has ls 3 [(0, .ref a_S), (1, .int v1), (2, .int v2)] → W p l e rm_X9_warmthOfAll s m args below meth c H locs 0 0 (MQ below (QcI D A r0 [(oX9 a_S (.ref a_S_cells) (.ref a_told) (.ref a_laws)), (a_S_cells, .inl (cI, 69, .inl S_cells))]) args s 0 0 A) (F0 m 4 ls [])) (v1 : Int32) (v2 : Int32) {H : Heap} {locs : List Loc} {ls : Array Slot} (hf : b_X9_warmthOfAll_4 S_cells k4 v1 v2 = some r0) (hw : Wo D A s [(oX9 a_S (.ref a_S_cells) (.ref a_told) (.ref a_laws)), (a_S_cells, .inl (cI, 69, .inl S_cells))] H locs) (hl : lv_has ls 3 [(0, .ref a_S), (1, .int v1), (2, .int v2)]) : W p l e rm_X9_warmthOfAll s m args below meth c H locs 0 0 (MQ below (QcI D A r0 [(oX9 a_S (.ref a_S_cells) (.ref a_told) (.ref a_laws)), (a_S_cells, .inl (cI, 69, .inl S_cells))]) args s 0 0 A) (F0 m 4 ls []) := by
  obtain ⟨hx, hb, hml, hown, hts, hr, hlk⟩ := id C
  obtain ⟨hK, hX, hA⟩ := id K
  unfold b_X9_warmthOfAll_4 at hf
  refine lv_iload_n hx hb dX9_warmthOfAll_4 rfl (lv_at hl 2 rfl) ?_
  refine lv_bipush (v := (36 : Int32)) hx hb dX9_warmthOfAll_5 (by decide) ?_
  refine lv_icmp_ge (tgt := 25) hx hb dX9_warmthOfAll_7 (by decide) (fun hc => ?_) (fun hc => ?_)
  · have hf := (if_pos hc).symm.trans hf
    refine lv_iload_n hx hb dX9_warmthOfAll_25 rfl (lv_at hl 1 rfl) ?_
    clear hk4; cases hf
    exact retI C hw dX9_warmthOfAll_26 rfl
  · have hf := (if_neg hc).symm.trans hf
    refine lv_iload_n hx hb dX9_warmthOfAll_10 rfl (lv_at hl 1 rfl) ?_
    refine lv_aload_n hx hb dX9_warmthOfAll_11 rfl (lv_at hl 0 rfl) ?_
    refine va_get (ci := 9) (v := .ref a_S_cells) (C := RX9) (T := TX9) (N := 3) hx hb hts in_X9_warmthOfAll_X9 hown hK hw.1 0 rfl rfl 0 (by decide) (hts _ lk_X9_warmthOfAll_0) (fun _ h9 => h9) rfl dX9_warmthOfAll_12 ?_
    refine lv_iload_n hx hb dX9_warmthOfAll_15 rfl (lv_at hl 2 rfl) ?_
    obtain ⟨hc_1, hf⟩ := gd_some hf
    refine va_iald hx hb hK hw.1 1 0 rfl rfl (inB_in hc_1) dX9_warmthOfAll_16 ?_
    refine lv_iadd hx hb dX9_warmthOfAll_17 ?_
    obtain ⟨v1_2, e_v1_2, hf⟩ := bnd_some hf
    refine lv_nmi e_v1_2 ?_
    refine lv_istore_n (lv' := [(1, .int v1_2), (0, .ref a_S), (2, .int v2)]) hx hb dX9_warmthOfAll_18 rfl hl (by decide) rfl (fun ls hl => ?_)
    obtain ⟨v2_3, e_v2_3, hf⟩ := bnd_some hf
    refine lv_iinc (v := v2_3) (lv' := [(2, .int v2_3), (1, .int v1_2), (0, .ref a_S)]) hx hb dX9_warmthOfAll_19 hl (k := 2) rfl (by rw [e_v2_3]; rfl) (by decide) rfl (fun ls hl => ?_)
    refine lv_goto (tgt := 4) hx hb dX9_warmthOfAll_22 (by decide) ?_
    exact hk4 v1_2 v2_3 _ _ _ hf hw (lv_sub hl [2, 1, 0] rfl)
theorem qf_X9_warmthOfAll_4 {p : Program} {l : Launch} {e : Env} {s : State} {m : MethodId} {args : Array Value} {below : List Frame} {meth : Method} {c : Code} {sx : List sx_T} {D : va_G} {cI cZ cO : ClassId} {A : Nat → Prop} (C : Cx p s m args meth c RX9 wsX9_warmthOfAll cX9_warmthOfAll 3 (some .int)) (K : Kx sx D (tyL cI cZ cO) A s) (a_S : Nat) (a_S_cells : Nat) (a_told : Nat) (a_laws : Nat) (S_cells : Nat → Int32) (r0 : Int32)    (n : Nat) : ∀ (v1 : Int32) (v2 : Int32) (H : Heap) (locs : List Loc) (ls : Array Slot), f_X9_warmthOfAll_4 S_cells  n v1 v2 = some r0 → Wo D A s [(oX9 a_S (.ref a_S_cells) (.ref a_told) (.ref a_laws)), (a_S_cells, .inl (cI, 69, .inl S_cells))] H locs → lv_has ls 3 [(0, .ref a_S), (1, .int v1), (2, .int v2)] → W p l e rm_X9_warmthOfAll s m args below meth c H locs 0 0 (MQ below (QcI D A r0 [(oX9 a_S (.ref a_S_cells) (.ref a_told) (.ref a_laws)), (a_S_cells, .inl (cI, 69, .inl S_cells))]) args s 0 0 A) (F0 m 4 ls []) := by
  induction n with
  | zero =>
    intro v1 v2 H locs ls hf
    have h9 : (none : Option (Int32)) = some r0 := hf
    cases h9
  | succ n ih =>
    intro v1 v2 H locs ls hf hw hl
    exact q_X9_warmthOfAll_4 C K a_S a_S_cells a_told a_laws S_cells r0  (f_X9_warmthOfAll_4 S_cells  n) ih v1 v2 hf hw hl
set_option maxHeartbeats 4000000 in
set_option maxRecDepth 100000 in
theorem q_X9_warmthOfAll_0 {p : Program} {l : Launch} {e : Env} {s : State} {m : MethodId} {args : Array Value} {below : List Frame} {meth : Method} {c : Code} {sx : List sx_T} {D : va_G} {cI cZ cO : ClassId} {A : Nat → Prop} (C : Cx p s m args meth c RX9 wsX9_warmthOfAll cX9_warmthOfAll 3 (some .int)) (K : Kx sx D (tyL cI cZ cO) A s) (a_S : Nat) (a_S_cells : Nat) (a_told : Nat) (a_laws : Nat) (S_cells : Nat → Int32) (r0 : Int32)     {H : Heap} {locs : List Loc} {ls : Array Slot} (hf : b_X9_warmthOfAll_0 S_cells   = some r0) (hw : Wo D A s [(oX9 a_S (.ref a_S_cells) (.ref a_told) (.ref a_laws)), (a_S_cells, .inl (cI, 69, .inl S_cells))] H locs) (hl : lv_has ls 3 [(0, .ref a_S)]) : W p l e rm_X9_warmthOfAll s m args below meth c H locs 0 0 (MQ below (QcI D A r0 [(oX9 a_S (.ref a_S_cells) (.ref a_told) (.ref a_laws)), (a_S_cells, .inl (cI, 69, .inl S_cells))]) args s 0 0 A) (F0 m 0 ls []) := by
  obtain ⟨hx, hb, hml, hown, hts, hr, hlk⟩ := id C
  obtain ⟨hK, hX, hA⟩ := id K
  unfold b_X9_warmthOfAll_0 at hf
  refine lv_iconst (v := (0 : Int32)) hx hb dX9_warmthOfAll_0 (by decide) ?_
  refine lv_istore_n (lv' := [(1, .int (0 : Int32)), (0, .ref a_S)]) hx hb dX9_warmthOfAll_1 rfl hl (by decide) rfl (fun ls hl => ?_)
  refine lv_iconst (v := (0 : Int32)) hx hb dX9_warmthOfAll_2 (by decide) ?_
  refine lv_istore_n (lv' := [(2, .int (0 : Int32)), (1, .int (0 : Int32)), (0, .ref a_S)]) hx hb dX9_warmthOfAll_3 rfl hl (by decide) rfl (fun ls hl => ?_)
  exact qf_X9_warmthOfAll_4 C K a_S a_S_cells a_told a_laws S_cells r0  fu (0 : Int32) (0 : Int32) _ _ _ hf hw (lv_sub hl [2, 1, 0] rfl)
set_option maxHeartbeats 4000000 in
set_option maxRecDepth 100000 in
theorem k_X9_warmthOfAll {l : Launch} {sx : List sx_T} {D : va_G} {cI cZ cO : ClassId} (a_S : Nat) (a_S_cells : Nat) (a_told : Nat) (a_laws : Nat) (S_cells : Nat → Int32) (r0 : Int32) (hF : f_X9_warmthOfAll S_cells = some r0) : CtI l yX9_warmthOfAll wsX9_warmthOfAll rm_X9_warmthOfAll sx D (tyL cI cZ cO) [.ref a_S] [(oX9 a_S (.ref a_S_cells) (.ref a_told) (.ref a_laws)), (a_S_cells, .inl (cI, 69, .inl S_cells))] r0 [(oX9 a_S (.ref a_S_cells) (.ref a_told) (.ref a_laws)), (a_S_cells, .inl (cI, 69, .inl S_cells))] := by
  refine ctI_of (cc := cX9_warmthOfAll) (ret := (some .int)) (maxL := 3) (by decide) rfl (Nat.le_of_ble_eq_true rfl) ?_
  intro p e s m below meth c A ls C K hw hl
  exact q_X9_warmthOfAll_0 C K a_S a_S_cells a_told a_laws S_cells r0  hF hw (lv_sub hl [0] rfl)
abbrev rm_X9_dawn : Room := { frames := 0, cells := 0, slots := 0, locals := 0 }
theorem in_X9_dawn_X9 : ∀ w ∈ u_ws RX9 TX9 3, w ∈ wsX9_dawn := fun w h => List.mem_cons_of_mem _ (bi_wsX90 w h)
theorem lk_X9_dawn_0 : Cond.fieldLink RX9 11 "GloveHouses$State" "cells" "[I" ∈ wsX9_dawn := List.mem_cons_of_mem _ (bi_wsL_law0_r5 _ (List.mem_of_getElem? (i := 11) rfl))
set_option maxHeartbeats 4000000 in
set_option maxRecDepth 100000 in
theorem q_X9_dawn_2 {p : Program} {l : Launch} {e : Env} {s : State} {m : MethodId} {args : Array Value} {below : List Frame} {meth : Method} {c : Code} {sx : List sx_T} {D : va_G} {cI cZ cO : ClassId} {A : Nat → Prop} (C : Cx p s m args meth c RX9 wsX9_dawn cX9_dawn 2 none) (K : Kx sx D (tyL cI cZ cO) A s) (a_S : Nat) (a_S_cells : Nat) (a_told : Nat) (a_laws : Nat) (o_S_cells : Nat → Int32)   (k2 : (Nat → Int32) → Int32 → Option ((Nat → Int32))) (hk2 : ∀ (S_cells : Nat → Int32) (v1 : Int32) (H : Heap) (locs : List Loc) (ls : Array Slot), k2 S_cells v1 = some o_S_cells → Wo D A s [(oX9 a_S (.ref a_S_cells) (.ref a_told) (.ref a_laws)), (a_S_cells, .inl (cI, 69, .inl S_cells))] H locs → lv_has ls 2 [(0, .ref a_S), (1, .int v1)] → W p l e rm_X9_dawn s m args below meth c H locs 0 0 (MQ below (QcV D A [(oX9 a_S (.ref a_S_cells) (.ref a_told) (.ref a_laws)), (a_S_cells, .inl (cI, 69, .inl o_S_cells))]) args s 0 0 A) (F0 m 2 ls [])) (S_cells : Nat → Int32) (v1 : Int32) {H : Heap} {locs : List Loc} {ls : Array Slot} (hf : b_X9_dawn_2  k2 S_cells v1 = some o_S_cells) (hw : Wo D A s [(oX9 a_S (.ref a_S_cells) (.ref a_told) (.ref a_laws)), (a_S_cells, .inl (cI, 69, .inl S_cells))] H locs) (hl : lv_has ls 2 [(0, .ref a_S), (1, .int v1)]) : W p l e rm_X9_dawn s m args below meth c H locs 0 0 (MQ below (QcV D A [(oX9 a_S (.ref a_S_cells) (.ref a_told) (.ref a_laws)), (a_S_cells, .inl (cI, 69, .inl o_S_cells))]) args s 0 0 A) (F0 m 2 ls []) := by
  obtain ⟨hx, hb, hml, hown, hts, hr, hlk⟩ := id C
  obtain ⟨hK, hX, hA⟩ := id K
  unfold b_X9_dawn_2 at hf
  refine lv_iload_n hx hb dX9_dawn_2 rfl (lv_at hl 1 rfl) ?_
  refine lv_bipush (v := (6 : Int32)) hx hb dX9_dawn_3 (by decide) ?_
  refine lv_icmp_ge (tgt := 24) hx hb dX9_dawn_5 (by decide) (fun hc => ?_) (fun hc => ?_)
  · have hf := (if_pos hc).symm.trans hf
    refine lv_aload_n hx hb dX9_dawn_24 rfl (lv_at hl 0 rfl) ?_
    refine va_get (ci := 9) (v := .ref a_S_cells) (C := RX9) (T := TX9) (N := 3) hx hb hts in_X9_dawn_X9 hown hK hw.1 0 rfl rfl 0 (by decide) (hts _ lk_X9_dawn_0) (fun _ h9 => h9) rfl dX9_dawn_25 ?_
    refine lv_bipush (v := (65 : Int32)) hx hb dX9_dawn_28 (by decide) ?_
    refine lv_iconst (v := (0 : Int32)) hx hb dX9_dawn_30 (by decide) ?_
    obtain ⟨hc_1, hf⟩ := gd_some hf
    obtain ⟨S_cells_2, e_S_cells_2, hf⟩ := bnd_some hf
    refine va_iast hx hb hK hw.1 hw.2.1 hw.2.2 1 0 rfl rfl (inB_in hc_1) dX9_dawn_31 (fun H locs hP hD hS => ?_)
    have hw : Wo D A s [(oX9 a_S (.ref a_S_cells) (.ref a_told) (.ref a_laws)), (a_S_cells, .inl (cI, 69, .inl S_cells_2))] H locs := by rw [e_S_cells_2]; exact ⟨hP, hD, hS⟩
    refine lv_aload_n hx hb dX9_dawn_32 rfl (lv_at hl 0 rfl) ?_
    refine va_get (ci := 9) (v := .ref a_S_cells) (C := RX9) (T := TX9) (N := 3) hx hb hts in_X9_dawn_X9 hown hK hw.1 0 rfl rfl 0 (by decide) (hts _ lk_X9_dawn_0) (fun _ h9 => h9) rfl dX9_dawn_33 ?_
    refine lv_bipush (v := (68 : Int32)) hx hb dX9_dawn_36 (by decide) ?_
    refine lv_dup2_11 hx hb dX9_dawn_38 rfl rfl ?_
    obtain ⟨hc_3, hf⟩ := gd_some hf
    refine va_iald hx hb hK hw.1 1 0 rfl rfl (inB_in hc_3) dX9_dawn_39 ?_
    refine lv_iconst (v := (1 : Int32)) hx hb dX9_dawn_40 (by decide) ?_
    refine lv_iadd hx hb dX9_dawn_41 ?_
    obtain ⟨hc_4, hf⟩ := gd_some hf
    obtain ⟨S_cells_5, e_S_cells_5, hf⟩ := bnd_some hf
    refine va_iast hx hb hK hw.1 hw.2.1 hw.2.2 1 0 rfl rfl (inB_in hc_4) dX9_dawn_42 (fun H locs hP hD hS => ?_)
    have hw : Wo D A s [(oX9 a_S (.ref a_S_cells) (.ref a_told) (.ref a_laws)), (a_S_cells, .inl (cI, 69, .inl S_cells_5))] H locs := by rw [e_S_cells_5]; exact ⟨hP, hD, hS⟩
    clear hk2; cases hf
    exact retV C hw dX9_dawn_43
  · have hf := (if_neg hc).symm.trans hf
    refine lv_aload_n hx hb dX9_dawn_8 rfl (lv_at hl 0 rfl) ?_
    refine va_get (ci := 9) (v := .ref a_S_cells) (C := RX9) (T := TX9) (N := 3) hx hb hts in_X9_dawn_X9 hown hK hw.1 0 rfl rfl 0 (by decide) (hts _ lk_X9_dawn_0) (fun _ h9 => h9) rfl dX9_dawn_9 ?_
    refine lv_bipush (v := (54 : Int32)) hx hb dX9_dawn_12 (by decide) ?_
    refine lv_iload_n hx hb dX9_dawn_14 rfl (lv_at hl 1 rfl) ?_
    refine lv_iadd hx hb dX9_dawn_15 ?_
    refine lv_iconst (v := (-1 : Int32)) hx hb dX9_dawn_16 (by decide) ?_
    obtain ⟨hc_6, hf⟩ := gd_some hf
    obtain ⟨S_cells_7, e_S_cells_7, hf⟩ := bnd_some hf
    refine va_iast hx hb hK hw.1 hw.2.1 hw.2.2 1 0 rfl rfl (inB_in hc_6) dX9_dawn_17 (fun H locs hP hD hS => ?_)
    have hw : Wo D A s [(oX9 a_S (.ref a_S_cells) (.ref a_told) (.ref a_laws)), (a_S_cells, .inl (cI, 69, .inl S_cells_7))] H locs := by rw [e_S_cells_7]; exact ⟨hP, hD, hS⟩
    obtain ⟨v1_8, e_v1_8, hf⟩ := bnd_some hf
    refine lv_iinc (v := v1_8) (lv' := [(1, .int v1_8), (0, .ref a_S)]) hx hb dX9_dawn_18 hl (k := 1) rfl (by rw [e_v1_8]; rfl) (by decide) rfl (fun ls hl => ?_)
    refine lv_goto (tgt := 2) hx hb dX9_dawn_21 (by decide) ?_
    exact hk2 S_cells_7 v1_8 _ _ _ hf hw (lv_sub hl [1, 0] rfl)
theorem qf_X9_dawn_2 {p : Program} {l : Launch} {e : Env} {s : State} {m : MethodId} {args : Array Value} {below : List Frame} {meth : Method} {c : Code} {sx : List sx_T} {D : va_G} {cI cZ cO : ClassId} {A : Nat → Prop} (C : Cx p s m args meth c RX9 wsX9_dawn cX9_dawn 2 none) (K : Kx sx D (tyL cI cZ cO) A s) (a_S : Nat) (a_S_cells : Nat) (a_told : Nat) (a_laws : Nat) (o_S_cells : Nat → Int32)    (n : Nat) : ∀ (S_cells : Nat → Int32) (v1 : Int32) (H : Heap) (locs : List Loc) (ls : Array Slot), f_X9_dawn_2   n S_cells v1 = some o_S_cells → Wo D A s [(oX9 a_S (.ref a_S_cells) (.ref a_told) (.ref a_laws)), (a_S_cells, .inl (cI, 69, .inl S_cells))] H locs → lv_has ls 2 [(0, .ref a_S), (1, .int v1)] → W p l e rm_X9_dawn s m args below meth c H locs 0 0 (MQ below (QcV D A [(oX9 a_S (.ref a_S_cells) (.ref a_told) (.ref a_laws)), (a_S_cells, .inl (cI, 69, .inl o_S_cells))]) args s 0 0 A) (F0 m 2 ls []) := by
  induction n with
  | zero =>
    intro S_cells v1 H locs ls hf
    have h9 : (none : Option ((Nat → Int32))) = some o_S_cells := hf
    cases h9
  | succ n ih =>
    intro S_cells v1 H locs ls hf hw hl
    exact q_X9_dawn_2 C K a_S a_S_cells a_told a_laws o_S_cells  (f_X9_dawn_2   n) ih S_cells v1 hf hw hl
set_option maxHeartbeats 4000000 in
set_option maxRecDepth 100000 in
theorem q_X9_dawn_0 {p : Program} {l : Launch} {e : Env} {s : State} {m : MethodId} {args : Array Value} {below : List Frame} {meth : Method} {c : Code} {sx : List sx_T} {D : va_G} {cI cZ cO : ClassId} {A : Nat → Prop} (C : Cx p s m args meth c RX9 wsX9_dawn cX9_dawn 2 none) (K : Kx sx D (tyL cI cZ cO) A s) (a_S : Nat) (a_S_cells : Nat) (a_told : Nat) (a_laws : Nat) (o_S_cells : Nat → Int32)    (S_cells : Nat → Int32) {H : Heap} {locs : List Loc} {ls : Array Slot} (hf : b_X9_dawn_0   S_cells = some o_S_cells) (hw : Wo D A s [(oX9 a_S (.ref a_S_cells) (.ref a_told) (.ref a_laws)), (a_S_cells, .inl (cI, 69, .inl S_cells))] H locs) (hl : lv_has ls 2 [(0, .ref a_S)]) : W p l e rm_X9_dawn s m args below meth c H locs 0 0 (MQ below (QcV D A [(oX9 a_S (.ref a_S_cells) (.ref a_told) (.ref a_laws)), (a_S_cells, .inl (cI, 69, .inl o_S_cells))]) args s 0 0 A) (F0 m 0 ls []) := by
  obtain ⟨hx, hb, hml, hown, hts, hr, hlk⟩ := id C
  obtain ⟨hK, hX, hA⟩ := id K
  unfold b_X9_dawn_0 at hf
  refine lv_iconst (v := (0 : Int32)) hx hb dX9_dawn_0 (by decide) ?_
  refine lv_istore_n (lv' := [(1, .int (0 : Int32)), (0, .ref a_S)]) hx hb dX9_dawn_1 rfl hl (by decide) rfl (fun ls hl => ?_)
  exact qf_X9_dawn_2 C K a_S a_S_cells a_told a_laws o_S_cells  fu S_cells (0 : Int32) _ _ _ hf hw (lv_sub hl [1, 0] rfl)
set_option maxHeartbeats 4000000 in
set_option maxRecDepth 100000 in
theorem k_X9_dawn {l : Launch} {sx : List sx_T} {D : va_G} {cI cZ cO : ClassId} (a_S : Nat) (a_S_cells : Nat) (a_told : Nat) (a_laws : Nat) (o_S_cells : Nat → Int32) (S_cells : Nat → Int32) (hF : f_X9_dawn S_cells = some o_S_cells) : CtV l yX9_dawn wsX9_dawn rm_X9_dawn sx D (tyL cI cZ cO) [.ref a_S] [(oX9 a_S (.ref a_S_cells) (.ref a_told) (.ref a_laws)), (a_S_cells, .inl (cI, 69, .inl S_cells))] [(oX9 a_S (.ref a_S_cells) (.ref a_told) (.ref a_laws)), (a_S_cells, .inl (cI, 69, .inl o_S_cells))] := by
  refine ctV_of (cc := cX9_dawn) (ret := none) (maxL := 2) (by decide) rfl (Nat.le_of_ble_eq_true rfl) ?_
  intro p e s m below meth c A ls C K hw hl
  exact q_X9_dawn_0 C K a_S a_S_cells a_told a_laws o_S_cells S_cells hF hw (lv_sub hl [0] rfl)
abbrev rm_X9_riseOf : Room := { frames := 4, cells := 0, slots := 0, locals := 102 }
set_option maxHeartbeats 4000000 in
set_option maxRecDepth 100000 in
theorem q_X9_riseOf_0 {p : Program} {l : Launch} {e : Env} {s : State} {m : MethodId} {args : Array Value} {below : List Frame} {meth : Method} {c : Code} {sx : List sx_T} {D : va_G} {cI cZ cO : ClassId} {A : Nat → Prop} (C : Cx p s m args meth c RX9 wsX9_riseOf cX9_riseOf 3 (some .int)) (K : Kx sx D (tyL cI cZ cO) A s) (a_told : Nat) (a_told_house : Nat) (a_told_free : Nat) (a_told_stuffed : Nat) (a_told_after : Nat) (a_told_weight : Nat) (a_told_need : Nat) (a_laws : Nat) (a_laws_codes : Nat) (a_laws_lengths : Nat) (a_laws_letters : Nat) (a_laws_stack : Nat) (a_S : Nat) (a_S_cells : Nat) (rw : Nat → Nat) (told_gloves : Int32) (told_matters : Int32) (told_pride : Int32) (told_coins : Int32) (told_after : Nat → Int32) (laws_size : Int32) (laws_holds : Int32) (laws_lengths : Nat → Int32) (laws_c0 : Nat → Int32) (laws_c1 : Nat → Int32) (laws_c2 : Nat → Int32) (laws_c3 : Nat → Int32) (S_cells : Nat → Int32) (r0 : Int32) (o_laws_letters : Nat → Int32) (o_laws_stack : Nat → Int32)    (laws_letters : Nat → Int32) (laws_stack : Nat → Int32) (v1 : Int32) (v2 : Int32) {H : Heap} {locs : List Loc} {ls : Array Slot} (hf : b_X9_riseOf_0 told_after laws_holds laws_lengths laws_c0 laws_c1 laws_c2 laws_c3 S_cells  laws_letters laws_stack v1 v2 = some (r0, o_laws_letters, o_laws_stack)) (hw : Wo D A s [(oX5 a_told (.int told_gloves) (.int told_matters) (.int told_pride) (.int told_coins) (.ref a_told_house) (.ref a_told_free) (.ref a_told_stuffed) (.ref a_told_after) (.ref a_told_weight) (.ref a_told_need)), (a_told_after, .inl (cI, 6, .inl told_after)), (oX2 a_laws (.int laws_size) (.int laws_holds) (.ref a_laws_codes) (.ref a_laws_lengths) (.ref a_laws_letters) (.ref a_laws_stack)), (a_laws_codes, .inl (cO, 4, .inr (.inr (.inr (.inr (rwF rw)))))), (a_laws_lengths, .inl (cI, 4, .inl laws_lengths)), (a_laws_letters, .inl (cI, 6, .inl laws_letters)), (a_laws_stack, .inl (cI, 241, .inl laws_stack)), ((rw 0), .inl (cI, 241, .inl laws_c0)), ((rw 1), .inl (cI, 241, .inl laws_c1)), ((rw 2), .inl (cI, 241, .inl laws_c2)), ((rw 3), .inl (cI, 241, .inl laws_c3)), (oX9 a_S (.ref a_S_cells) (.ref a_told) (.ref a_laws)), (a_S_cells, .inl (cI, 69, .inl S_cells))] H locs) (hl : lv_has ls 3 [(0, .ref a_S), (1, .int v1), (2, .int v2)]) : W p l e rm_X9_riseOf s m args below meth c H locs 0 0 (MQ below (QcI D A r0 [(oX5 a_told (.int told_gloves) (.int told_matters) (.int told_pride) (.int told_coins) (.ref a_told_house) (.ref a_told_free) (.ref a_told_stuffed) (.ref a_told_after) (.ref a_told_weight) (.ref a_told_need)), (a_told_after, .inl (cI, 6, .inl told_after)), (oX2 a_laws (.int laws_size) (.int laws_holds) (.ref a_laws_codes) (.ref a_laws_lengths) (.ref a_laws_letters) (.ref a_laws_stack)), (a_laws_codes, .inl (cO, 4, .inr (.inr (.inr (.inr (rwF rw)))))), (a_laws_lengths, .inl (cI, 4, .inl laws_lengths)), (a_laws_letters, .inl (cI, 6, .inl o_laws_letters)), (a_laws_stack, .inl (cI, 241, .inl o_laws_stack)), ((rw 0), .inl (cI, 241, .inl laws_c0)), ((rw 1), .inl (cI, 241, .inl laws_c1)), ((rw 2), .inl (cI, 241, .inl laws_c2)), ((rw 3), .inl (cI, 241, .inl laws_c3)), (oX9 a_S (.ref a_S_cells) (.ref a_told) (.ref a_laws)), (a_S_cells, .inl (cI, 69, .inl S_cells))]) args s 0 0 A) (F0 m 0 ls []) := by
  obtain ⟨hx, hb, hml, hown, hts, hr, hlk⟩ := id C
  obtain ⟨hK, hX, hA⟩ := id K
  unfold b_X9_riseOf_0 at hf
  refine lv_aload_n hx hb dX9_riseOf_0 rfl (lv_at hl 0 rfl) ?_
  refine lv_iload_n hx hb dX9_riseOf_1 rfl (lv_at hl 1 rfl) ?_
  refine lv_iload_n hx hb dX9_riseOf_2 rfl (lv_at hl 2 rfl) ?_
  refine lv_aload_n hx hb dX9_riseOf_3 rfl (lv_at hl 0 rfl) ?_
  refine lv_iload_n hx hb dX9_riseOf_4 rfl (lv_at hl 1 rfl) ?_
  refine lv_iload_n hx hb dX9_riseOf_5 rfl (lv_at hl 2 rfl) ?_
  obtain ⟨r_1, hg_2, hf⟩ := ob1_some hf
  refine cl_ViA (As := [.int v1, .int v2]) (rest := [.int v2, .int v1, .ref a_S]) C K hw (k_X9_warmthOf a_S a_S_cells a_told a_laws S_cells r_1 v1 v2 hg_2) [11, 12] rfl (by decide) rfl rfl (ci := 9) (j := 11) rfl rfl (cwV 2 hts gX9_riseOf_X9_warmthOf rfl rfl rfl (by decide +kernel) ⟨Nat.le_of_ble_eq_true rfl, Nat.le_of_ble_eq_true rfl⟩) rfl hl rfl (Nat.le_of_ble_eq_true rfl) dX9_riseOf_6 ⟨Nat.zero_le _, Nat.zero_le _⟩ (fun H locs hw => ?_)
  have hw : Wo D A s [(oX5 a_told (.int told_gloves) (.int told_matters) (.int told_pride) (.int told_coins) (.ref a_told_house) (.ref a_told_free) (.ref a_told_stuffed) (.ref a_told_after) (.ref a_told_weight) (.ref a_told_need)), (a_told_after, .inl (cI, 6, .inl told_after)), (oX2 a_laws (.int laws_size) (.int laws_holds) (.ref a_laws_codes) (.ref a_laws_lengths) (.ref a_laws_letters) (.ref a_laws_stack)), (a_laws_codes, .inl (cO, 4, .inr (.inr (.inr (.inr (rwF rw)))))), (a_laws_lengths, .inl (cI, 4, .inl laws_lengths)), (a_laws_letters, .inl (cI, 6, .inl laws_letters)), (a_laws_stack, .inl (cI, 241, .inl laws_stack)), ((rw 0), .inl (cI, 241, .inl laws_c0)), ((rw 1), .inl (cI, 241, .inl laws_c1)), ((rw 2), .inl (cI, 241, .inl laws_c2)), ((rw 3), .inl (cI, 241, .inl laws_c3)), (oX9 a_S (.ref a_S_cells) (.ref a_told) (.ref a_laws)), (a_S_cells, .inl (cI, 69, .inl S_cells))] H locs := hw
  refine lv_aload_n hx hb dX9_riseOf_9 rfl (lv_at hl 0 rfl) ?_
  obtain ⟨r_3, hg_4, hf⟩ := ob1_some hf
  refine cl_ViA (As := []) (rest := [.int r_1, .int v2, .int v1, .ref a_S]) C K hw (k_X9_day a_S a_S_cells a_told a_laws S_cells r_3 hg_4) [11, 12] rfl (by decide) rfl rfl (ci := 9) (j := 11) rfl rfl (cwV 0 hts gX9_riseOf_X9_day rfl rfl rfl (by decide +kernel) ⟨Nat.le_of_ble_eq_true rfl, Nat.le_of_ble_eq_true rfl⟩) rfl hl rfl (Nat.le_of_ble_eq_true rfl) dX9_riseOf_10 ⟨Nat.zero_le _, Nat.zero_le _⟩ (fun H locs hw => ?_)
  have hw : Wo D A s [(oX5 a_told (.int told_gloves) (.int told_matters) (.int told_pride) (.int told_coins) (.ref a_told_house) (.ref a_told_free) (.ref a_told_stuffed) (.ref a_told_after) (.ref a_told_weight) (.ref a_told_need)), (a_told_after, .inl (cI, 6, .inl told_after)), (oX2 a_laws (.int laws_size) (.int laws_holds) (.ref a_laws_codes) (.ref a_laws_lengths) (.ref a_laws_letters) (.ref a_laws_stack)), (a_laws_codes, .inl (cO, 4, .inr (.inr (.inr (.inr (rwF rw)))))), (a_laws_lengths, .inl (cI, 4, .inl laws_lengths)), (a_laws_letters, .inl (cI, 6, .inl laws_letters)), (a_laws_stack, .inl (cI, 241, .inl laws_stack)), ((rw 0), .inl (cI, 241, .inl laws_c0)), ((rw 1), .inl (cI, 241, .inl laws_c1)), ((rw 2), .inl (cI, 241, .inl laws_c2)), ((rw 3), .inl (cI, 241, .inl laws_c3)), (oX9 a_S (.ref a_S_cells) (.ref a_told) (.ref a_laws)), (a_S_cells, .inl (cI, 69, .inl S_cells))] H locs := hw
  obtain ⟨r_5, laws_letters_6, laws_stack_7, hg_8, hf⟩ := ob3_some hf
  refine cl_ViA (As := [.int v1, .int v2, .int r_1, .int r_3]) (rest := []) C K hw (k_X9_riseAt a_told a_told_house a_told_free a_told_stuffed a_told_after a_told_weight a_told_need a_laws a_laws_codes a_laws_lengths a_laws_letters a_laws_stack a_S a_S_cells rw told_gloves told_matters told_pride told_coins told_after laws_size laws_holds laws_lengths laws_c0 laws_c1 laws_c2 laws_c3 S_cells r_5 laws_letters_6 laws_stack_7 laws_letters laws_stack v1 v2 r_1 r_3 hg_8) [0, 1, 2, 3, 4, 5, 6, 7, 8, 9, 10, 11, 12] rfl (by decide) rfl rfl (ci := 9) (j := 11) rfl rfl (cwV 4 hts gX9_riseOf_X9_riseAt rfl rfl rfl (by decide +kernel) ⟨Nat.le_of_ble_eq_true rfl, Nat.le_of_ble_eq_true rfl⟩) rfl hl rfl (Nat.le_of_ble_eq_true rfl) dX9_riseOf_13 ⟨Nat.zero_le _, Nat.zero_le _⟩ (fun H locs hw => ?_)
  have hw : Wo D A s [(oX5 a_told (.int told_gloves) (.int told_matters) (.int told_pride) (.int told_coins) (.ref a_told_house) (.ref a_told_free) (.ref a_told_stuffed) (.ref a_told_after) (.ref a_told_weight) (.ref a_told_need)), (a_told_after, .inl (cI, 6, .inl told_after)), (oX2 a_laws (.int laws_size) (.int laws_holds) (.ref a_laws_codes) (.ref a_laws_lengths) (.ref a_laws_letters) (.ref a_laws_stack)), (a_laws_codes, .inl (cO, 4, .inr (.inr (.inr (.inr (rwF rw)))))), (a_laws_lengths, .inl (cI, 4, .inl laws_lengths)), (a_laws_letters, .inl (cI, 6, .inl laws_letters_6)), (a_laws_stack, .inl (cI, 241, .inl laws_stack_7)), ((rw 0), .inl (cI, 241, .inl laws_c0)), ((rw 1), .inl (cI, 241, .inl laws_c1)), ((rw 2), .inl (cI, 241, .inl laws_c2)), ((rw 3), .inl (cI, 241, .inl laws_c3)), (oX9 a_S (.ref a_S_cells) (.ref a_told) (.ref a_laws)), (a_S_cells, .inl (cI, 69, .inl S_cells))] H locs := hw
  cases hf
  exact retI C hw dX9_riseOf_16 rfl
set_option maxHeartbeats 4000000 in
set_option maxRecDepth 100000 in
theorem k_X9_riseOf {l : Launch} {sx : List sx_T} {D : va_G} {cI cZ cO : ClassId} (a_told : Nat) (a_told_house : Nat) (a_told_free : Nat) (a_told_stuffed : Nat) (a_told_after : Nat) (a_told_weight : Nat) (a_told_need : Nat) (a_laws : Nat) (a_laws_codes : Nat) (a_laws_lengths : Nat) (a_laws_letters : Nat) (a_laws_stack : Nat) (a_S : Nat) (a_S_cells : Nat) (rw : Nat → Nat) (told_gloves : Int32) (told_matters : Int32) (told_pride : Int32) (told_coins : Int32) (told_after : Nat → Int32) (laws_size : Int32) (laws_holds : Int32) (laws_lengths : Nat → Int32) (laws_c0 : Nat → Int32) (laws_c1 : Nat → Int32) (laws_c2 : Nat → Int32) (laws_c3 : Nat → Int32) (S_cells : Nat → Int32) (r0 : Int32) (o_laws_letters : Nat → Int32) (o_laws_stack : Nat → Int32) (laws_letters : Nat → Int32) (laws_stack : Nat → Int32) (p1 : Int32) (p2 : Int32) (hF : f_X9_riseOf told_after laws_holds laws_lengths laws_c0 laws_c1 laws_c2 laws_c3 S_cells laws_letters laws_stack p1 p2 = some (r0, o_laws_letters, o_laws_stack)) : CtI l yX9_riseOf wsX9_riseOf rm_X9_riseOf sx D (tyL cI cZ cO) [.ref a_S, .int p1, .int p2] [(oX5 a_told (.int told_gloves) (.int told_matters) (.int told_pride) (.int told_coins) (.ref a_told_house) (.ref a_told_free) (.ref a_told_stuffed) (.ref a_told_after) (.ref a_told_weight) (.ref a_told_need)), (a_told_after, .inl (cI, 6, .inl told_after)), (oX2 a_laws (.int laws_size) (.int laws_holds) (.ref a_laws_codes) (.ref a_laws_lengths) (.ref a_laws_letters) (.ref a_laws_stack)), (a_laws_codes, .inl (cO, 4, .inr (.inr (.inr (.inr (rwF rw)))))), (a_laws_lengths, .inl (cI, 4, .inl laws_lengths)), (a_laws_letters, .inl (cI, 6, .inl laws_letters)), (a_laws_stack, .inl (cI, 241, .inl laws_stack)), ((rw 0), .inl (cI, 241, .inl laws_c0)), ((rw 1), .inl (cI, 241, .inl laws_c1)), ((rw 2), .inl (cI, 241, .inl laws_c2)), ((rw 3), .inl (cI, 241, .inl laws_c3)), (oX9 a_S (.ref a_S_cells) (.ref a_told) (.ref a_laws)), (a_S_cells, .inl (cI, 69, .inl S_cells))] r0 [(oX5 a_told (.int told_gloves) (.int told_matters) (.int told_pride) (.int told_coins) (.ref a_told_house) (.ref a_told_free) (.ref a_told_stuffed) (.ref a_told_after) (.ref a_told_weight) (.ref a_told_need)), (a_told_after, .inl (cI, 6, .inl told_after)), (oX2 a_laws (.int laws_size) (.int laws_holds) (.ref a_laws_codes) (.ref a_laws_lengths) (.ref a_laws_letters) (.ref a_laws_stack)), (a_laws_codes, .inl (cO, 4, .inr (.inr (.inr (.inr (rwF rw)))))), (a_laws_lengths, .inl (cI, 4, .inl laws_lengths)), (a_laws_letters, .inl (cI, 6, .inl o_laws_letters)), (a_laws_stack, .inl (cI, 241, .inl o_laws_stack)), ((rw 0), .inl (cI, 241, .inl laws_c0)), ((rw 1), .inl (cI, 241, .inl laws_c1)), ((rw 2), .inl (cI, 241, .inl laws_c2)), ((rw 3), .inl (cI, 241, .inl laws_c3)), (oX9 a_S (.ref a_S_cells) (.ref a_told) (.ref a_laws)), (a_S_cells, .inl (cI, 69, .inl S_cells))] := by
  refine ctI_of (cc := cX9_riseOf) (ret := (some .int)) (maxL := 3) (by decide) rfl (Nat.le_of_ble_eq_true rfl) ?_
  intro p e s m below meth c A ls C K hw hl
  exact q_X9_riseOf_0 C K a_told a_told_house a_told_free a_told_stuffed a_told_after a_told_weight a_told_need a_laws a_laws_codes a_laws_lengths a_laws_letters a_laws_stack a_S a_S_cells rw told_gloves told_matters told_pride told_coins told_after laws_size laws_holds laws_lengths laws_c0 laws_c1 laws_c2 laws_c3 S_cells r0 o_laws_letters o_laws_stack laws_letters laws_stack p1 p2 hF hw (lv_sub hl [0, 1, 2] rfl)
abbrev rm_X9_copyFrom : Room := { frames := 1, cells := 0, slots := 0, locals := 26 }
theorem in_X9_copyFrom_X9 : ∀ w ∈ u_ws RX9 TX9 3, w ∈ wsX9_copyFrom := fun w h => List.mem_cons_of_mem _ (bi_wsX90 w h)
theorem lk_X9_copyFrom_0 : Cond.fieldLink RX9 11 "GloveHouses$State" "cells" "[I" ∈ wsX9_copyFrom := List.mem_cons_of_mem _ (bi_wsL_law0_r5 _ (List.mem_of_getElem? (i := 11) rfl))
theorem lk_X9_copyFrom_1 : Cond.methodLink RX9 23 arraycopyName ∈ wsX9_copyFrom := List.mem_cons_of_mem _ (bi_wsL_law0_r46 _ (List.mem_of_getElem? (i := 10) rfl))
theorem lk_X9_copyFrom_2 : Cond.native arraycopyName ∈ wsX9_copyFrom := List.mem_cons_of_mem _ (bi_wsL_law0_r10 _ (List.mem_of_getElem? (i := 21) rfl))
theorem lk_X9_copyFrom_3 : Cond.static arraycopyName ∈ wsX9_copyFrom := List.mem_cons_of_mem _ (bi_wsL_law0_r10 _ (List.mem_of_getElem? (i := 22) rfl))
theorem lk_X9_copyFrom_4 : Cond.initialized "java/lang/System" ∈ wsX9_copyFrom := List.mem_cons_of_mem _ (bi_wsL_law0_r10 _ (List.mem_of_getElem? (i := 23) rfl))
set_option maxHeartbeats 4000000 in
set_option maxRecDepth 100000 in
theorem q_X9_copyFrom_0 {p : Program} {l : Launch} {e : Env} {s : State} {m : MethodId} {args : Array Value} {below : List Frame} {meth : Method} {c : Code} {sx : List sx_T} {D : va_G} {cI cZ cO : ClassId} {A : Nat → Prop} (C : Cx p s m args meth c RX9 wsX9_copyFrom cX9_copyFrom 2 none) (K : Kx sx D (tyL cI cZ cO) A s) (a_S : Nat) (a_S_cells : Nat) (a_told : Nat) (a_laws : Nat) (a_SO : Nat) (a_SO_cells : Nat) (SO_cells : Nat → Int32) (o_S_cells : Nat → Int32)    (S_cells : Nat → Int32) {H : Heap} {locs : List Loc} {ls : Array Slot} (hf : b_X9_copyFrom_0 SO_cells  S_cells = some o_S_cells) (hw : Wo D A s [(oX9 a_S (.ref a_S_cells) (.ref a_told) (.ref a_laws)), (a_S_cells, .inl (cI, 69, .inl S_cells)), (oX9 a_SO (.ref a_SO_cells) (.ref a_told) (.ref a_laws)), (a_SO_cells, .inl (cI, 69, .inl SO_cells))] H locs) (hl : lv_has ls 2 [(0, .ref a_S), (1, .ref a_SO)]) : W p l e rm_X9_copyFrom s m args below meth c H locs 0 0 (MQ below (QcV D A [(oX9 a_S (.ref a_S_cells) (.ref a_told) (.ref a_laws)), (a_S_cells, .inl (cI, 69, .inl o_S_cells)), (oX9 a_SO (.ref a_SO_cells) (.ref a_told) (.ref a_laws)), (a_SO_cells, .inl (cI, 69, .inl SO_cells))]) args s 0 0 A) (F0 m 0 ls []) := by
  obtain ⟨hx, hb, hml, hown, hts, hr, hlk⟩ := id C
  obtain ⟨hK, hX, hA⟩ := id K
  unfold b_X9_copyFrom_0 at hf
  refine lv_aload_n hx hb dX9_copyFrom_0 rfl (lv_at hl 1 rfl) ?_
  refine va_get (ci := 9) (v := .ref a_SO_cells) (C := RX9) (T := TX9) (N := 3) hx hb hts in_X9_copyFrom_X9 hown hK hw.1 2 rfl rfl 0 (by decide) (hts _ lk_X9_copyFrom_0) (fun _ h9 => h9) rfl dX9_copyFrom_1 ?_
  refine lv_iconst (v := (0 : Int32)) hx hb dX9_copyFrom_4 (by decide) ?_
  refine lv_aload_n hx hb dX9_copyFrom_5 rfl (lv_at hl 0 rfl) ?_
  refine va_get (ci := 9) (v := .ref a_S_cells) (C := RX9) (T := TX9) (N := 3) hx hb hts in_X9_copyFrom_X9 hown hK hw.1 0 rfl rfl 0 (by decide) (hts _ lk_X9_copyFrom_0) (fun _ h9 => h9) rfl dX9_copyFrom_6 ?_
  refine lv_iconst (v := (0 : Int32)) hx hb dX9_copyFrom_9 (by decide) ?_
  refine lv_bipush (v := (69 : Int32)) hx hb dX9_copyFrom_10 (by decide) ?_
  obtain ⟨hc_1, hf⟩ := gd_some hf
  obtain ⟨hc_2, hf⟩ := gd_some hf
  obtain ⟨S_cells_3, e_S_cells_3, hf⟩ := bnd_some hf
  refine va_copyi hx hb (hml.trans hl.1.symm) hown (hts _ lk_X9_copyFrom_1) (hts _ lk_X9_copyFrom_2) (hts _ lk_X9_copyFrom_3) (hts _ lk_X9_copyFrom_4) hK hw.1 hw.2.1 hw.2.2 3 1 0 0 rfl rfl rfl rfl rfl (spB_sp hc_1).1 (spB_sp hc_2).1 (spB_sp hc_1).2.1 (spB_sp hc_1).2.2 (spB_sp hc_2).2.2 (fun _ _ => rfl) (Nat.le_of_ble_eq_true rfl) (Nat.le_of_ble_eq_true rfl) dX9_copyFrom_12 (fun H locs hP hD hS => ?_)
  have hw : Wo D A s [(oX9 a_S (.ref a_S_cells) (.ref a_told) (.ref a_laws)), (a_S_cells, .inl (cI, 69, .inl S_cells_3)), (oX9 a_SO (.ref a_SO_cells) (.ref a_told) (.ref a_laws)), (a_SO_cells, .inl (cI, 69, .inl SO_cells))] H locs := by rw [e_S_cells_3]; exact ⟨hP, hD, hS⟩
  cases hf
  exact retV C hw dX9_copyFrom_15
set_option maxHeartbeats 4000000 in
set_option maxRecDepth 100000 in
theorem k_X9_copyFrom {l : Launch} {sx : List sx_T} {D : va_G} {cI cZ cO : ClassId} (a_S : Nat) (a_S_cells : Nat) (a_told : Nat) (a_laws : Nat) (a_SO : Nat) (a_SO_cells : Nat) (SO_cells : Nat → Int32) (o_S_cells : Nat → Int32) (S_cells : Nat → Int32) (hF : f_X9_copyFrom SO_cells S_cells = some o_S_cells) : CtV l yX9_copyFrom wsX9_copyFrom rm_X9_copyFrom sx D (tyL cI cZ cO) [.ref a_S, .ref a_SO] [(oX9 a_S (.ref a_S_cells) (.ref a_told) (.ref a_laws)), (a_S_cells, .inl (cI, 69, .inl S_cells)), (oX9 a_SO (.ref a_SO_cells) (.ref a_told) (.ref a_laws)), (a_SO_cells, .inl (cI, 69, .inl SO_cells))] [(oX9 a_S (.ref a_S_cells) (.ref a_told) (.ref a_laws)), (a_S_cells, .inl (cI, 69, .inl o_S_cells)), (oX9 a_SO (.ref a_SO_cells) (.ref a_told) (.ref a_laws)), (a_SO_cells, .inl (cI, 69, .inl SO_cells))] := by
  refine ctV_of (cc := cX9_copyFrom) (ret := none) (maxL := 2) (by decide) rfl (Nat.le_of_ble_eq_true rfl) ?_
  intro p e s m below meth c A ls C K hw hl
  exact q_X9_copyFrom_0 C K a_S a_S_cells a_told a_laws a_SO a_SO_cells SO_cells o_S_cells S_cells hF hw (lv_sub hl [0, 1] rfl)
abbrev rm_X9_allKnown : Room := { frames := 1, cells := 0, slots := 0, locals := 21 }
theorem in_X9_allKnown_X9 : ∀ w ∈ u_ws RX9 TX9 3, w ∈ wsX9_allKnown := fun w h => List.mem_cons_of_mem _ (bi_wsX90 w h)
theorem in_X9_allKnown_X5 : ∀ w ∈ u_ws RX5 TX5 10, w ∈ wsX9_allKnown := fun w h => List.mem_cons_of_mem _ (bi_wsX50 w h)
theorem lk_X9_allKnown_0 : Cond.fieldLink RX9 15 "GloveHouses$State" "told" "LGloveHouses$Peace;" ∈ wsX9_allKnown := List.mem_cons_of_mem _ (bi_wsL_law0_r5 _ (List.mem_of_getElem? (i := 12) rfl))
theorem lk_X9_allKnown_1 : Cond.fieldLink RX9 102 "GloveHouses$Peace" "gloves" "I" ∈ wsX9_allKnown := List.mem_cons_of_mem _ (bi_wsL_law0_r37 _ (List.mem_of_getElem? (i := 4) rfl))
set_option maxHeartbeats 4000000 in
set_option maxRecDepth 100000 in
theorem q_X9_allKnown_2 {p : Program} {l : Launch} {e : Env} {s : State} {m : MethodId} {args : Array Value} {below : List Frame} {meth : Method} {c : Code} {sx : List sx_T} {D : va_G} {cI cZ cO : ClassId} {A : Nat → Prop} (C : Cx p s m args meth c RX9 wsX9_allKnown cX9_allKnown 2 (some .boolean)) (K : Kx sx D (tyL cI cZ cO) A s) (a_told : Nat) (a_told_house : Nat) (a_told_free : Nat) (a_told_stuffed : Nat) (a_told_after : Nat) (a_told_weight : Nat) (a_told_need : Nat) (a_S : Nat) (a_S_cells : Nat) (a_laws : Nat) (told_gloves : Int32) (told_matters : Int32) (told_pride : Int32) (told_coins : Int32) (S_cells : Nat → Int32) (r0 : Int32)   (k2 : Int32 → Option (Int32)) (hk2 : ∀ (v1 : Int32) (H : Heap) (locs : List Loc) (ls : Array Slot), k2 v1 = some r0 → Wo D A s [(oX5 a_told (.int told_gloves) (.int told_matters) (.int told_pride) (.int told_coins) (.ref a_told_house) (.ref a_told_free) (.ref a_told_stuffed) (.ref a_told_after) (.ref a_told_weight) (.ref a_told_need)), (oX9 a_S (.ref a_S_cells) (.ref a_told) (.ref a_laws)), (a_S_cells, .inl (cI, 69, .inl S_cells))] H locs → lv_has ls 2 [(0, .ref a_S), (1, .int v1)] → W p l e rm_X9_allKnown s m args below meth c H locs 0 0 (MQ below (QcI D A r0 [(oX5 a_told (.int told_gloves) (.int told_matters) (.int told_pride) (.int told_coins) (.ref a_told_house) (.ref a_told_free) (.ref a_told_stuffed) (.ref a_told_after) (.ref a_told_weight) (.ref a_told_need)), (oX9 a_S (.ref a_S_cells) (.ref a_told) (.ref a_laws)), (a_S_cells, .inl (cI, 69, .inl S_cells))]) args s 0 0 A) (F0 m 2 ls [])) (v1 : Int32) {H : Heap} {locs : List Loc} {ls : Array Slot} (hf : b_X9_allKnown_2 told_gloves S_cells k2 v1 = some r0) (hw : Wo D A s [(oX5 a_told (.int told_gloves) (.int told_matters) (.int told_pride) (.int told_coins) (.ref a_told_house) (.ref a_told_free) (.ref a_told_stuffed) (.ref a_told_after) (.ref a_told_weight) (.ref a_told_need)), (oX9 a_S (.ref a_S_cells) (.ref a_told) (.ref a_laws)), (a_S_cells, .inl (cI, 69, .inl S_cells))] H locs) (hl : lv_has ls 2 [(0, .ref a_S), (1, .int v1)]) : W p l e rm_X9_allKnown s m args below meth c H locs 0 0 (MQ below (QcI D A r0 [(oX5 a_told (.int told_gloves) (.int told_matters) (.int told_pride) (.int told_coins) (.ref a_told_house) (.ref a_told_free) (.ref a_told_stuffed) (.ref a_told_after) (.ref a_told_weight) (.ref a_told_need)), (oX9 a_S (.ref a_S_cells) (.ref a_told) (.ref a_laws)), (a_S_cells, .inl (cI, 69, .inl S_cells))]) args s 0 0 A) (F0 m 2 ls []) := by
  obtain ⟨hx, hb, hml, hown, hts, hr, hlk⟩ := id C
  obtain ⟨hK, hX, hA⟩ := id K
  unfold b_X9_allKnown_2 at hf
  refine lv_iload_n hx hb dX9_allKnown_2 rfl (lv_at hl 1 rfl) ?_
  refine lv_aload_n hx hb dX9_allKnown_3 rfl (lv_at hl 0 rfl) ?_
  refine va_get (ci := 9) (v := .ref a_told) (C := RX9) (T := TX9) (N := 3) hx hb hts in_X9_allKnown_X9 hown hK hw.1 1 rfl rfl 1 (by decide) (hts _ lk_X9_allKnown_0) (fun _ h9 => h9) rfl dX9_allKnown_4 ?_
  refine va_get (ci := 5) (v := .int told_gloves) (C := RX5) (T := TX5) (N := 10) hx hb hts in_X9_allKnown_X5 hown hK hw.1 0 rfl rfl 0 (by decide) (hts _ lk_X9_allKnown_1) (fun _ h9 => h9) rfl dX9_allKnown_7 ?_
  refine lv_icmp_ge (tgt := 40) hx hb dX9_allKnown_10 (by decide) (fun hc => ?_) (fun hc => ?_)
  · have hf := (if_pos hc).symm.trans hf
    refine lv_iconst (v := (1 : Int32)) hx hb dX9_allKnown_40 (by decide) ?_
    clear hk2; cases hf
    exact retZ C hw dX9_allKnown_41 (by decide) rfl
  · have hf := (if_neg hc).symm.trans hf
    refine lv_aload_n hx hb dX9_allKnown_13 rfl (lv_at hl 0 rfl) ?_
    refine lv_iload_n hx hb dX9_allKnown_14 rfl (lv_at hl 1 rfl) ?_
    obtain ⟨r_1, hg_2, hf⟩ := ob1_some hf
    refine cl_ViA (As := [.int v1]) (rest := []) C K hw (k_X9_knows a_S a_S_cells a_told a_laws S_cells r_1 v1 hg_2) [1, 2] rfl (by decide) rfl rfl (ci := 9) (j := 1) rfl rfl (cwV 1 hts gX9_allKnown_X9_knows rfl rfl rfl (by decide +kernel) ⟨Nat.le_of_ble_eq_true rfl, Nat.le_of_ble_eq_true rfl⟩) rfl hl rfl (Nat.le_of_ble_eq_true rfl) dX9_allKnown_15 ⟨Nat.zero_le _, Nat.zero_le _⟩ (fun H locs hw => ?_)
    have hw : Wo D A s [(oX5 a_told (.int told_gloves) (.int told_matters) (.int told_pride) (.int told_coins) (.ref a_told_house) (.ref a_told_free) (.ref a_told_stuffed) (.ref a_told_after) (.ref a_told_weight) (.ref a_told_need)), (oX9 a_S (.ref a_S_cells) (.ref a_told) (.ref a_laws)), (a_S_cells, .inl (cI, 69, .inl S_cells))] H locs := hw
    refine lv_iconst (v := (1 : Int32)) hx hb dX9_allKnown_18 (by decide) ?_
    refine lv_aload_n hx hb dX9_allKnown_19 rfl (lv_at hl 0 rfl) ?_
    refine va_get (ci := 9) (v := .ref a_told) (C := RX9) (T := TX9) (N := 3) hx hb hts in_X9_allKnown_X9 hown hK hw.1 1 rfl rfl 1 (by decide) (hts _ lk_X9_allKnown_0) (fun _ h9 => h9) rfl dX9_allKnown_20 ?_
    refine va_get (ci := 5) (v := .int told_gloves) (C := RX5) (T := TX5) (N := 10) hx hb hts in_X9_allKnown_X5 hown hK hw.1 0 rfl rfl 0 (by decide) (hts _ lk_X9_allKnown_1) (fun _ h9 => h9) rfl dX9_allKnown_23 ?_
    refine lv_ishl hx hb dX9_allKnown_26 ?_
    refine lv_iconst (v := (1 : Int32)) hx hb dX9_allKnown_27 (by decide) ?_
    refine lv_isub hx hb dX9_allKnown_28 ?_
    obtain ⟨n_3, e_n_3, hf⟩ := bnd_some hf
    refine lv_nmi e_n_3 ?_
    refine lv_icmp_eq (tgt := 34) hx hb dX9_allKnown_29 (by decide) (fun hc => ?_) (fun hc => ?_)
    · have hf := (if_pos hc).symm.trans hf
      obtain ⟨v1_4, e_v1_4, hf⟩ := bnd_some hf
      refine lv_iinc (v := v1_4) (lv' := [(1, .int v1_4), (0, .ref a_S)]) hx hb dX9_allKnown_34 hl (k := 1) rfl (by rw [e_v1_4]; rfl) (by decide) rfl (fun ls hl => ?_)
      refine lv_goto (tgt := 2) hx hb dX9_allKnown_37 (by decide) ?_
      exact hk2 v1_4 _ _ _ hf hw (lv_sub hl [1, 0] rfl)
    · have hf := (if_neg hc).symm.trans hf
      refine lv_iconst (v := (0 : Int32)) hx hb dX9_allKnown_32 (by decide) ?_
      clear hk2; cases hf
      exact retZ C hw dX9_allKnown_33 (by decide) rfl
theorem qf_X9_allKnown_2 {p : Program} {l : Launch} {e : Env} {s : State} {m : MethodId} {args : Array Value} {below : List Frame} {meth : Method} {c : Code} {sx : List sx_T} {D : va_G} {cI cZ cO : ClassId} {A : Nat → Prop} (C : Cx p s m args meth c RX9 wsX9_allKnown cX9_allKnown 2 (some .boolean)) (K : Kx sx D (tyL cI cZ cO) A s) (a_told : Nat) (a_told_house : Nat) (a_told_free : Nat) (a_told_stuffed : Nat) (a_told_after : Nat) (a_told_weight : Nat) (a_told_need : Nat) (a_S : Nat) (a_S_cells : Nat) (a_laws : Nat) (told_gloves : Int32) (told_matters : Int32) (told_pride : Int32) (told_coins : Int32) (S_cells : Nat → Int32) (r0 : Int32)    (n : Nat) : ∀ (v1 : Int32) (H : Heap) (locs : List Loc) (ls : Array Slot), f_X9_allKnown_2 told_gloves S_cells  n v1 = some r0 → Wo D A s [(oX5 a_told (.int told_gloves) (.int told_matters) (.int told_pride) (.int told_coins) (.ref a_told_house) (.ref a_told_free) (.ref a_told_stuffed) (.ref a_told_after) (.ref a_told_weight) (.ref a_told_need)), (oX9 a_S (.ref a_S_cells) (.ref a_told) (.ref a_laws)), (a_S_cells, .inl (cI, 69, .inl S_cells))] H locs → lv_has ls 2 [(0, .ref a_S), (1, .int v1)] → W p l e rm_X9_allKnown s m args below meth c H locs 0 0 (MQ below (QcI D A r0 [(oX5 a_told (.int told_gloves) (.int told_matters) (.int told_pride) (.int told_coins) (.ref a_told_house) (.ref a_told_free) (.ref a_told_stuffed) (.ref a_told_after) (.ref a_told_weight) (.ref a_told_need)), (oX9 a_S (.ref a_S_cells) (.ref a_told) (.ref a_laws)), (a_S_cells, .inl (cI, 69, .inl S_cells))]) args s 0 0 A) (F0 m 2 ls []) := by
  induction n with
  | zero =>
    intro v1 H locs ls hf
    have h9 : (none : Option (Int32)) = some r0 := hf
    cases h9
  | succ n ih =>
    intro v1 H locs ls hf hw hl
    exact q_X9_allKnown_2 C K a_told a_told_house a_told_free a_told_stuffed a_told_after a_told_weight a_told_need a_S a_S_cells a_laws told_gloves told_matters told_pride told_coins S_cells r0  (f_X9_allKnown_2 told_gloves S_cells  n) ih v1 hf hw hl
set_option maxHeartbeats 4000000 in
set_option maxRecDepth 100000 in
theorem q_X9_allKnown_0 {p : Program} {l : Launch} {e : Env} {s : State} {m : MethodId} {args : Array Value} {below : List Frame} {meth : Method} {c : Code} {sx : List sx_T} {D : va_G} {cI cZ cO : ClassId} {A : Nat → Prop} (C : Cx p s m args meth c RX9 wsX9_allKnown cX9_allKnown 2 (some .boolean)) (K : Kx sx D (tyL cI cZ cO) A s) (a_told : Nat) (a_told_house : Nat) (a_told_free : Nat) (a_told_stuffed : Nat) (a_told_after : Nat) (a_told_weight : Nat) (a_told_need : Nat) (a_S : Nat) (a_S_cells : Nat) (a_laws : Nat) (told_gloves : Int32) (told_matters : Int32) (told_pride : Int32) (told_coins : Int32) (S_cells : Nat → Int32) (r0 : Int32)     {H : Heap} {locs : List Loc} {ls : Array Slot} (hf : b_X9_allKnown_0 told_gloves S_cells   = some r0) (hw : Wo D A s [(oX5 a_told (.int told_gloves) (.int told_matters) (.int told_pride) (.int told_coins) (.ref a_told_house) (.ref a_told_free) (.ref a_told_stuffed) (.ref a_told_after) (.ref a_told_weight) (.ref a_told_need)), (oX9 a_S (.ref a_S_cells) (.ref a_told) (.ref a_laws)), (a_S_cells, .inl (cI, 69, .inl S_cells))] H locs) (hl : lv_has ls 2 [(0, .ref a_S)]) : W p l e rm_X9_allKnown s m args below meth c H locs 0 0 (MQ below (QcI D A r0 [(oX5 a_told (.int told_gloves) (.int told_matters) (.int told_pride) (.int told_coins) (.ref a_told_house) (.ref a_told_free) (.ref a_told_stuffed) (.ref a_told_after) (.ref a_told_weight) (.ref a_told_need)), (oX9 a_S (.ref a_S_cells) (.ref a_told) (.ref a_laws)), (a_S_cells, .inl (cI, 69, .inl S_cells))]) args s 0 0 A) (F0 m 0 ls []) := by
  obtain ⟨hx, hb, hml, hown, hts, hr, hlk⟩ := id C
  obtain ⟨hK, hX, hA⟩ := id K
  unfold b_X9_allKnown_0 at hf
  refine lv_iconst (v := (0 : Int32)) hx hb dX9_allKnown_0 (by decide) ?_
  refine lv_istore_n (lv' := [(1, .int (0 : Int32)), (0, .ref a_S)]) hx hb dX9_allKnown_1 rfl hl (by decide) rfl (fun ls hl => ?_)
  exact qf_X9_allKnown_2 C K a_told a_told_house a_told_free a_told_stuffed a_told_after a_told_weight a_told_need a_S a_S_cells a_laws told_gloves told_matters told_pride told_coins S_cells r0  fu (0 : Int32) _ _ _ hf hw (lv_sub hl [1, 0] rfl)
set_option maxHeartbeats 4000000 in
set_option maxRecDepth 100000 in
theorem k_X9_allKnown {l : Launch} {sx : List sx_T} {D : va_G} {cI cZ cO : ClassId} (a_told : Nat) (a_told_house : Nat) (a_told_free : Nat) (a_told_stuffed : Nat) (a_told_after : Nat) (a_told_weight : Nat) (a_told_need : Nat) (a_S : Nat) (a_S_cells : Nat) (a_laws : Nat) (told_gloves : Int32) (told_matters : Int32) (told_pride : Int32) (told_coins : Int32) (S_cells : Nat → Int32) (r0 : Int32) (hF : f_X9_allKnown told_gloves S_cells = some r0) : CtI l yX9_allKnown wsX9_allKnown rm_X9_allKnown sx D (tyL cI cZ cO) [.ref a_S] [(oX5 a_told (.int told_gloves) (.int told_matters) (.int told_pride) (.int told_coins) (.ref a_told_house) (.ref a_told_free) (.ref a_told_stuffed) (.ref a_told_after) (.ref a_told_weight) (.ref a_told_need)), (oX9 a_S (.ref a_S_cells) (.ref a_told) (.ref a_laws)), (a_S_cells, .inl (cI, 69, .inl S_cells))] r0 [(oX5 a_told (.int told_gloves) (.int told_matters) (.int told_pride) (.int told_coins) (.ref a_told_house) (.ref a_told_free) (.ref a_told_stuffed) (.ref a_told_after) (.ref a_told_weight) (.ref a_told_need)), (oX9 a_S (.ref a_S_cells) (.ref a_told) (.ref a_laws)), (a_S_cells, .inl (cI, 69, .inl S_cells))] := by
  refine ctI_of (cc := cX9_allKnown) (ret := (some .boolean)) (maxL := 2) (by decide) rfl (Nat.le_of_ble_eq_true rfl) ?_
  intro p e s m below meth c A ls C K hw hl
  exact q_X9_allKnown_0 C K a_told a_told_house a_told_free a_told_stuffed a_told_after a_told_weight a_told_need a_S a_S_cells a_laws told_gloves told_matters told_pride told_coins S_cells r0  hF hw (lv_sub hl [0] rfl)
abbrev rm_X9_gains : Room := { frames := 5, cells := 0, slots := 0, locals := 124 }
theorem in_X9_gains_X9 : ∀ w ∈ u_ws RX9 TX9 3, w ∈ wsX9_gains := fun w h => List.mem_cons_of_mem _ (bi_wsX90 w h)
theorem lk_X9_gains_0 : Cond.fieldLink RX9 15 "GloveHouses$State" "told" "LGloveHouses$Peace;" ∈ wsX9_gains := List.mem_cons_of_mem _ (bi_wsL_law0_r5 _ (List.mem_of_getElem? (i := 12) rfl))
set_option maxHeartbeats 4000000 in
set_option maxRecDepth 100000 in
theorem q_X9_gains_0 {p : Program} {l : Launch} {e : Env} {s : State} {m : MethodId} {args : Array Value} {below : List Frame} {meth : Method} {c : Code} {sx : List sx_T} {D : va_G} {cI cZ cO : ClassId} {A : Nat → Prop} (C : Cx p s m args meth c RX9 wsX9_gains cX9_gains 3 (some .int)) (K : Kx sx D (tyL cI cZ cO) A s) (a_told : Nat) (a_told_house : Nat) (a_told_free : Nat) (a_told_stuffed : Nat) (a_told_after : Nat) (a_told_weight : Nat) (a_told_need : Nat) (a_laws : Nat) (a_laws_codes : Nat) (a_laws_lengths : Nat) (a_laws_letters : Nat) (a_laws_stack : Nat) (a_S : Nat) (a_S_cells : Nat) (rw : Nat → Nat) (told_gloves : Int32) (told_matters : Int32) (told_pride : Int32) (told_coins : Int32) (told_after : Nat → Int32) (laws_size : Int32) (laws_holds : Int32) (laws_lengths : Nat → Int32) (laws_c0 : Nat → Int32) (laws_c1 : Nat → Int32) (laws_c2 : Nat → Int32) (laws_c3 : Nat → Int32) (S_cells : Nat → Int32) (r0 : Int32) (o_laws_letters : Nat → Int32) (o_laws_stack : Nat → Int32)    (laws_letters : Nat → Int32) (laws_stack : Nat → Int32) (v1 : Int32) (v2 : Int32) {H : Heap} {locs : List Loc} {ls : Array Slot} (hf : b_X9_gains_0 told_gloves told_after laws_holds laws_lengths laws_c0 laws_c1 laws_c2 laws_c3 S_cells  laws_letters laws_stack v1 v2 = some (r0, o_laws_letters, o_laws_stack)) (hw : Wo D A s [(oX5 a_told (.int told_gloves) (.int told_matters) (.int told_pride) (.int told_coins) (.ref a_told_house) (.ref a_told_free) (.ref a_told_stuffed) (.ref a_told_after) (.ref a_told_weight) (.ref a_told_need)), (a_told_after, .inl (cI, 6, .inl told_after)), (oX2 a_laws (.int laws_size) (.int laws_holds) (.ref a_laws_codes) (.ref a_laws_lengths) (.ref a_laws_letters) (.ref a_laws_stack)), (a_laws_codes, .inl (cO, 4, .inr (.inr (.inr (.inr (rwF rw)))))), (a_laws_lengths, .inl (cI, 4, .inl laws_lengths)), (a_laws_letters, .inl (cI, 6, .inl laws_letters)), (a_laws_stack, .inl (cI, 241, .inl laws_stack)), ((rw 0), .inl (cI, 241, .inl laws_c0)), ((rw 1), .inl (cI, 241, .inl laws_c1)), ((rw 2), .inl (cI, 241, .inl laws_c2)), ((rw 3), .inl (cI, 241, .inl laws_c3)), (oX9 a_S (.ref a_S_cells) (.ref a_told) (.ref a_laws)), (a_S_cells, .inl (cI, 69, .inl S_cells))] H locs) (hl : lv_has ls 3 [(0, .ref a_S), (1, .int v1), (2, .int v2)]) : W p l e rm_X9_gains s m args below meth c H locs 0 0 (MQ below (QcI D A r0 [(oX5 a_told (.int told_gloves) (.int told_matters) (.int told_pride) (.int told_coins) (.ref a_told_house) (.ref a_told_free) (.ref a_told_stuffed) (.ref a_told_after) (.ref a_told_weight) (.ref a_told_need)), (a_told_after, .inl (cI, 6, .inl told_after)), (oX2 a_laws (.int laws_size) (.int laws_holds) (.ref a_laws_codes) (.ref a_laws_lengths) (.ref a_laws_letters) (.ref a_laws_stack)), (a_laws_codes, .inl (cO, 4, .inr (.inr (.inr (.inr (rwF rw)))))), (a_laws_lengths, .inl (cI, 4, .inl laws_lengths)), (a_laws_letters, .inl (cI, 6, .inl o_laws_letters)), (a_laws_stack, .inl (cI, 241, .inl o_laws_stack)), ((rw 0), .inl (cI, 241, .inl laws_c0)), ((rw 1), .inl (cI, 241, .inl laws_c1)), ((rw 2), .inl (cI, 241, .inl laws_c2)), ((rw 3), .inl (cI, 241, .inl laws_c3)), (oX9 a_S (.ref a_S_cells) (.ref a_told) (.ref a_laws)), (a_S_cells, .inl (cI, 69, .inl S_cells))]) args s 0 0 A) (F0 m 0 ls []) := by
  obtain ⟨hx, hb, hml, hown, hts, hr, hlk⟩ := id C
  obtain ⟨hK, hX, hA⟩ := id K
  unfold b_X9_gains_0 at hf
  refine lv_aload_n hx hb dX9_gains_0 rfl (lv_at hl 0 rfl) ?_
  refine va_get (ci := 9) (v := .ref a_told) (C := RX9) (T := TX9) (N := 3) hx hb hts in_X9_gains_X9 hown hK hw.1 11 rfl rfl 1 (by decide) (hts _ lk_X9_gains_0) (fun _ h9 => h9) rfl dX9_gains_1 ?_
  refine lv_iload_n hx hb dX9_gains_4 rfl (lv_at hl 1 rfl) ?_
  obtain ⟨r_1, hg_2, hf⟩ := ob1_some hf
  refine cl_ViA (As := [.int v1]) (rest := []) C K hw (k_X5_hasGlove a_told a_told_house a_told_free a_told_stuffed a_told_after a_told_weight a_told_need told_gloves told_matters told_pride told_coins r_1 v1 hg_2) [0] rfl (by decide) rfl rfl (ci := 5) (j := 0) rfl rfl (cwV 1 hts gX9_gains_X5_hasGlove rfl rfl rfl (by decide +kernel) ⟨Nat.le_of_ble_eq_true rfl, Nat.le_of_ble_eq_true rfl⟩) rfl hl rfl (Nat.le_of_ble_eq_true rfl) dX9_gains_5 ⟨Nat.zero_le _, Nat.zero_le _⟩ (fun H locs hw => ?_)
  have hw : Wo D A s [(oX5 a_told (.int told_gloves) (.int told_matters) (.int told_pride) (.int told_coins) (.ref a_told_house) (.ref a_told_free) (.ref a_told_stuffed) (.ref a_told_after) (.ref a_told_weight) (.ref a_told_need)), (a_told_after, .inl (cI, 6, .inl told_after)), (oX2 a_laws (.int laws_size) (.int laws_holds) (.ref a_laws_codes) (.ref a_laws_lengths) (.ref a_laws_letters) (.ref a_laws_stack)), (a_laws_codes, .inl (cO, 4, .inr (.inr (.inr (.inr (rwF rw)))))), (a_laws_lengths, .inl (cI, 4, .inl laws_lengths)), (a_laws_letters, .inl (cI, 6, .inl laws_letters)), (a_laws_stack, .inl (cI, 241, .inl laws_stack)), ((rw 0), .inl (cI, 241, .inl laws_c0)), ((rw 1), .inl (cI, 241, .inl laws_c1)), ((rw 2), .inl (cI, 241, .inl laws_c2)), ((rw 3), .inl (cI, 241, .inl laws_c3)), (oX9 a_S (.ref a_S_cells) (.ref a_told) (.ref a_laws)), (a_S_cells, .inl (cI, 69, .inl S_cells))] H locs := hw
  refine lv_if_ne (tgt := 14) hx hb dX9_gains_8 (by decide) (fun hc => ?_) (fun hc => ?_)
  · have hf := (if_neg hc).symm.trans hf
    refine lv_aload_n hx hb dX9_gains_14 rfl (lv_at hl 0 rfl) ?_
    refine va_get (ci := 9) (v := .ref a_told) (C := RX9) (T := TX9) (N := 3) hx hb hts in_X9_gains_X9 hown hK hw.1 11 rfl rfl 1 (by decide) (hts _ lk_X9_gains_0) (fun _ h9 => h9) rfl dX9_gains_15 ?_
    refine lv_iload_n hx hb dX9_gains_18 rfl (lv_at hl 2 rfl) ?_
    obtain ⟨r_3, hg_4, hf⟩ := ob1_some hf
    refine cl_ViA (As := [.int v2]) (rest := []) C K hw (k_X5_hasGlove a_told a_told_house a_told_free a_told_stuffed a_told_after a_told_weight a_told_need told_gloves told_matters told_pride told_coins r_3 v2 hg_4) [0] rfl (by decide) rfl rfl (ci := 5) (j := 0) rfl rfl (cwV 1 hts gX9_gains_X5_hasGlove rfl rfl rfl (by decide +kernel) ⟨Nat.le_of_ble_eq_true rfl, Nat.le_of_ble_eq_true rfl⟩) rfl hl rfl (Nat.le_of_ble_eq_true rfl) dX9_gains_19 ⟨Nat.zero_le _, Nat.zero_le _⟩ (fun H locs hw => ?_)
    have hw : Wo D A s [(oX5 a_told (.int told_gloves) (.int told_matters) (.int told_pride) (.int told_coins) (.ref a_told_house) (.ref a_told_free) (.ref a_told_stuffed) (.ref a_told_after) (.ref a_told_weight) (.ref a_told_need)), (a_told_after, .inl (cI, 6, .inl told_after)), (oX2 a_laws (.int laws_size) (.int laws_holds) (.ref a_laws_codes) (.ref a_laws_lengths) (.ref a_laws_letters) (.ref a_laws_stack)), (a_laws_codes, .inl (cO, 4, .inr (.inr (.inr (.inr (rwF rw)))))), (a_laws_lengths, .inl (cI, 4, .inl laws_lengths)), (a_laws_letters, .inl (cI, 6, .inl laws_letters)), (a_laws_stack, .inl (cI, 241, .inl laws_stack)), ((rw 0), .inl (cI, 241, .inl laws_c0)), ((rw 1), .inl (cI, 241, .inl laws_c1)), ((rw 2), .inl (cI, 241, .inl laws_c2)), ((rw 3), .inl (cI, 241, .inl laws_c3)), (oX9 a_S (.ref a_S_cells) (.ref a_told) (.ref a_laws)), (a_S_cells, .inl (cI, 69, .inl S_cells))] H locs := hw
    refine lv_if_eq (tgt := 42) hx hb dX9_gains_22 (by decide) (fun hc => ?_) (fun hc => ?_)
    · have hf := (if_pos hc).symm.trans hf
      refine lv_iconst (v := (0 : Int32)) hx hb dX9_gains_42 (by decide) ?_
      cases hf
      exact retI C hw dX9_gains_43 rfl
    · have hf := (if_neg hc).symm.trans hf
      refine lv_aload_n hx hb dX9_gains_25 rfl (lv_at hl 0 rfl) ?_
      refine lv_iload_n hx hb dX9_gains_26 rfl (lv_at hl 1 rfl) ?_
      refine lv_iload_n hx hb dX9_gains_27 rfl (lv_at hl 2 rfl) ?_
      obtain ⟨r_5, laws_letters_6, laws_stack_7, hg_8, hf⟩ := ob3_some hf
      refine cl_ViA (As := [.int v1, .int v2]) (rest := []) C K hw (k_X9_riseOf a_told a_told_house a_told_free a_told_stuffed a_told_after a_told_weight a_told_need a_laws a_laws_codes a_laws_lengths a_laws_letters a_laws_stack a_S a_S_cells rw told_gloves told_matters told_pride told_coins told_after laws_size laws_holds laws_lengths laws_c0 laws_c1 laws_c2 laws_c3 S_cells r_5 laws_letters_6 laws_stack_7 laws_letters laws_stack v1 v2 hg_8) [0, 1, 2, 3, 4, 5, 6, 7, 8, 9, 10, 11, 12] rfl (by decide) rfl rfl (ci := 9) (j := 11) rfl rfl (cwV 2 hts gX9_gains_X9_riseOf rfl rfl rfl (by decide +kernel) ⟨Nat.le_of_ble_eq_true rfl, Nat.le_of_ble_eq_true rfl⟩) rfl hl rfl (Nat.le_of_ble_eq_true rfl) dX9_gains_28 ⟨Nat.zero_le _, Nat.zero_le _⟩ (fun H locs hw => ?_)
      have hw : Wo D A s [(oX5 a_told (.int told_gloves) (.int told_matters) (.int told_pride) (.int told_coins) (.ref a_told_house) (.ref a_told_free) (.ref a_told_stuffed) (.ref a_told_after) (.ref a_told_weight) (.ref a_told_need)), (a_told_after, .inl (cI, 6, .inl told_after)), (oX2 a_laws (.int laws_size) (.int laws_holds) (.ref a_laws_codes) (.ref a_laws_lengths) (.ref a_laws_letters) (.ref a_laws_stack)), (a_laws_codes, .inl (cO, 4, .inr (.inr (.inr (.inr (rwF rw)))))), (a_laws_lengths, .inl (cI, 4, .inl laws_lengths)), (a_laws_letters, .inl (cI, 6, .inl laws_letters_6)), (a_laws_stack, .inl (cI, 241, .inl laws_stack_7)), ((rw 0), .inl (cI, 241, .inl laws_c0)), ((rw 1), .inl (cI, 241, .inl laws_c1)), ((rw 2), .inl (cI, 241, .inl laws_c2)), ((rw 3), .inl (cI, 241, .inl laws_c3)), (oX9 a_S (.ref a_S_cells) (.ref a_told) (.ref a_laws)), (a_S_cells, .inl (cI, 69, .inl S_cells))] H locs := hw
      refine lv_aload_n hx hb dX9_gains_31 rfl (lv_at hl 0 rfl) ?_
      refine lv_iload_n hx hb dX9_gains_32 rfl (lv_at hl 1 rfl) ?_
      obtain ⟨r_9, hg_10, hf⟩ := ob1_some hf
      refine cl_ViA (As := [.int v1]) (rest := [.int r_5]) C K hw (k_X9_free a_S a_S_cells a_told a_laws S_cells r_9 v1 hg_10) [11, 12] rfl (by decide) rfl rfl (ci := 9) (j := 11) rfl rfl (cwV 1 hts gX9_gains_X9_free rfl rfl rfl (by decide +kernel) ⟨Nat.le_of_ble_eq_true rfl, Nat.le_of_ble_eq_true rfl⟩) rfl hl rfl (Nat.le_of_ble_eq_true rfl) dX9_gains_33 ⟨Nat.zero_le _, Nat.zero_le _⟩ (fun H locs hw => ?_)
      have hw : Wo D A s [(oX5 a_told (.int told_gloves) (.int told_matters) (.int told_pride) (.int told_coins) (.ref a_told_house) (.ref a_told_free) (.ref a_told_stuffed) (.ref a_told_after) (.ref a_told_weight) (.ref a_told_need)), (a_told_after, .inl (cI, 6, .inl told_after)), (oX2 a_laws (.int laws_size) (.int laws_holds) (.ref a_laws_codes) (.ref a_laws_lengths) (.ref a_laws_letters) (.ref a_laws_stack)), (a_laws_codes, .inl (cO, 4, .inr (.inr (.inr (.inr (rwF rw)))))), (a_laws_lengths, .inl (cI, 4, .inl laws_lengths)), (a_laws_letters, .inl (cI, 6, .inl laws_letters_6)), (a_laws_stack, .inl (cI, 241, .inl laws_stack_7)), ((rw 0), .inl (cI, 241, .inl laws_c0)), ((rw 1), .inl (cI, 241, .inl laws_c1)), ((rw 2), .inl (cI, 241, .inl laws_c2)), ((rw 3), .inl (cI, 241, .inl laws_c3)), (oX9 a_S (.ref a_S_cells) (.ref a_told) (.ref a_laws)), (a_S_cells, .inl (cI, 69, .inl S_cells))] H locs := hw
      refine lv_iconst (v := (3 : Int32)) hx hb dX9_gains_36 (by decide) ?_
      refine lv_idiv hx hb dX9_gains_37 (by decide) ?_
      refine lv_isub hx hb dX9_gains_38 ?_
      refine lv_goto (tgt := 43) hx hb dX9_gains_39 (by decide) ?_
      cases hf
      exact retI C hw dX9_gains_43 rfl
  · have hf := (if_pos hc).symm.trans hf
    refine lv_bipush (v := (-20 : Int32)) hx hb dX9_gains_11 (by decide) ?_
    cases hf
    exact retI C hw dX9_gains_13 rfl
set_option maxHeartbeats 4000000 in
set_option maxRecDepth 100000 in
theorem k_X9_gains {l : Launch} {sx : List sx_T} {D : va_G} {cI cZ cO : ClassId} (a_told : Nat) (a_told_house : Nat) (a_told_free : Nat) (a_told_stuffed : Nat) (a_told_after : Nat) (a_told_weight : Nat) (a_told_need : Nat) (a_laws : Nat) (a_laws_codes : Nat) (a_laws_lengths : Nat) (a_laws_letters : Nat) (a_laws_stack : Nat) (a_S : Nat) (a_S_cells : Nat) (rw : Nat → Nat) (told_gloves : Int32) (told_matters : Int32) (told_pride : Int32) (told_coins : Int32) (told_after : Nat → Int32) (laws_size : Int32) (laws_holds : Int32) (laws_lengths : Nat → Int32) (laws_c0 : Nat → Int32) (laws_c1 : Nat → Int32) (laws_c2 : Nat → Int32) (laws_c3 : Nat → Int32) (S_cells : Nat → Int32) (r0 : Int32) (o_laws_letters : Nat → Int32) (o_laws_stack : Nat → Int32) (laws_letters : Nat → Int32) (laws_stack : Nat → Int32) (p1 : Int32) (p2 : Int32) (hF : f_X9_gains told_gloves told_after laws_holds laws_lengths laws_c0 laws_c1 laws_c2 laws_c3 S_cells laws_letters laws_stack p1 p2 = some (r0, o_laws_letters, o_laws_stack)) : CtI l yX9_gains wsX9_gains rm_X9_gains sx D (tyL cI cZ cO) [.ref a_S, .int p1, .int p2] [(oX5 a_told (.int told_gloves) (.int told_matters) (.int told_pride) (.int told_coins) (.ref a_told_house) (.ref a_told_free) (.ref a_told_stuffed) (.ref a_told_after) (.ref a_told_weight) (.ref a_told_need)), (a_told_after, .inl (cI, 6, .inl told_after)), (oX2 a_laws (.int laws_size) (.int laws_holds) (.ref a_laws_codes) (.ref a_laws_lengths) (.ref a_laws_letters) (.ref a_laws_stack)), (a_laws_codes, .inl (cO, 4, .inr (.inr (.inr (.inr (rwF rw)))))), (a_laws_lengths, .inl (cI, 4, .inl laws_lengths)), (a_laws_letters, .inl (cI, 6, .inl laws_letters)), (a_laws_stack, .inl (cI, 241, .inl laws_stack)), ((rw 0), .inl (cI, 241, .inl laws_c0)), ((rw 1), .inl (cI, 241, .inl laws_c1)), ((rw 2), .inl (cI, 241, .inl laws_c2)), ((rw 3), .inl (cI, 241, .inl laws_c3)), (oX9 a_S (.ref a_S_cells) (.ref a_told) (.ref a_laws)), (a_S_cells, .inl (cI, 69, .inl S_cells))] r0 [(oX5 a_told (.int told_gloves) (.int told_matters) (.int told_pride) (.int told_coins) (.ref a_told_house) (.ref a_told_free) (.ref a_told_stuffed) (.ref a_told_after) (.ref a_told_weight) (.ref a_told_need)), (a_told_after, .inl (cI, 6, .inl told_after)), (oX2 a_laws (.int laws_size) (.int laws_holds) (.ref a_laws_codes) (.ref a_laws_lengths) (.ref a_laws_letters) (.ref a_laws_stack)), (a_laws_codes, .inl (cO, 4, .inr (.inr (.inr (.inr (rwF rw)))))), (a_laws_lengths, .inl (cI, 4, .inl laws_lengths)), (a_laws_letters, .inl (cI, 6, .inl o_laws_letters)), (a_laws_stack, .inl (cI, 241, .inl o_laws_stack)), ((rw 0), .inl (cI, 241, .inl laws_c0)), ((rw 1), .inl (cI, 241, .inl laws_c1)), ((rw 2), .inl (cI, 241, .inl laws_c2)), ((rw 3), .inl (cI, 241, .inl laws_c3)), (oX9 a_S (.ref a_S_cells) (.ref a_told) (.ref a_laws)), (a_S_cells, .inl (cI, 69, .inl S_cells))] := by
  refine ctI_of (cc := cX9_gains) (ret := (some .int)) (maxL := 3) (by decide) rfl (Nat.le_of_ble_eq_true rfl) ?_
  intro p e s m below meth c A ls C K hw hl
  exact q_X9_gains_0 C K a_told a_told_house a_told_free a_told_stuffed a_told_after a_told_weight a_told_need a_laws a_laws_codes a_laws_lengths a_laws_letters a_laws_stack a_S a_S_cells rw told_gloves told_matters told_pride told_coins told_after laws_size laws_holds laws_lengths laws_c0 laws_c1 laws_c2 laws_c3 S_cells r0 o_laws_letters o_laws_stack laws_letters laws_stack p1 p2 hF hw (lv_sub hl [0, 1, 2] rfl)
abbrev rm_X9_freeOf : Room := { frames := 1, cells := 0, slots := 0, locals := 21 }
theorem in_X9_freeOf_X9 : ∀ w ∈ u_ws RX9 TX9 3, w ∈ wsX9_freeOf := fun w h => List.mem_cons_of_mem _ (bi_wsX90 w h)
theorem in_X9_freeOf_X5 : ∀ w ∈ u_ws RX5 TX5 10, w ∈ wsX9_freeOf := fun w h => List.mem_cons_of_mem _ (bi_wsX50 w h)
theorem lk_X9_freeOf_0 : Cond.fieldLink RX9 15 "GloveHouses$State" "told" "LGloveHouses$Peace;" ∈ wsX9_freeOf := List.mem_cons_of_mem _ (bi_wsL_law0_r5 _ (List.mem_of_getElem? (i := 12) rfl))
theorem lk_X9_freeOf_1 : Cond.fieldLink RX9 102 "GloveHouses$Peace" "gloves" "I" ∈ wsX9_freeOf := List.mem_cons_of_mem _ (bi_wsL_law0_r37 _ (List.mem_of_getElem? (i := 4) rfl))
theorem lk_X9_freeOf_2 : Cond.fieldLink RX9 112 "GloveHouses$Peace" "house" "[I" ∈ wsX9_freeOf := List.mem_cons_of_mem _ (bi_wsL_law0_r54 _ (List.mem_of_getElem? (i := 19) rfl))
set_option maxHeartbeats 4000000 in
set_option maxRecDepth 100000 in
theorem q_X9_freeOf_36 {p : Program} {l : Launch} {e : Env} {s : State} {m : MethodId} {args : Array Value} {below : List Frame} {meth : Method} {c : Code} {sx : List sx_T} {D : va_G} {cI cZ cO : ClassId} {A : Nat → Prop} (C : Cx p s m args meth c RX9 wsX9_freeOf cX9_freeOf 4 (some .int)) (K : Kx sx D (tyL cI cZ cO) A s) (a_told : Nat) (a_told_house : Nat) (a_told_free : Nat) (a_told_stuffed : Nat) (a_told_after : Nat) (a_told_weight : Nat) (a_told_need : Nat) (a_S : Nat) (a_S_cells : Nat) (a_laws : Nat) (told_gloves : Int32) (told_matters : Int32) (told_pride : Int32) (told_coins : Int32) (told_house : Nat → Int32) (S_cells : Nat → Int32) (r0 : Int32)   (k4 : Int32 → Int32 → Int32 → Option (Int32)) (hk4 : ∀ (v1 : Int32) (v2 : Int32) (v3 : Int32) (H : Heap) (locs : List Loc) (ls : Array Slot), k4 v1 v2 v3 = some r0 → Wo D A s [(oX5 a_told (.int told_gloves) (.int told_matters) (.int told_pride) (.int told_coins) (.ref a_told_house) (.ref a_told_free) (.ref a_told_stuffed) (.ref a_told_after) (.ref a_told_weight) (.ref a_told_need)), (a_told_house, .inl (cI, 6, .inl told_house)), (oX9 a_S (.ref a_S_cells) (.ref a_told) (.ref a_laws)), (a_S_cells, .inl (cI, 69, .inl S_cells))] H locs → lv_has ls 4 [(0, .ref a_S), (1, .int v1), (2, .int v2), (3, .int v3)] → W p l e rm_X9_freeOf s m args below meth c H locs 0 0 (MQ below (QcI D A r0 [(oX5 a_told (.int told_gloves) (.int told_matters) (.int told_pride) (.int told_coins) (.ref a_told_house) (.ref a_told_free) (.ref a_told_stuffed) (.ref a_told_after) (.ref a_told_weight) (.ref a_told_need)), (a_told_house, .inl (cI, 6, .inl told_house)), (oX9 a_S (.ref a_S_cells) (.ref a_told) (.ref a_laws)), (a_S_cells, .inl (cI, 69, .inl S_cells))]) args s 0 0 A) (F0 m 4 ls [])) (v1 : Int32) (v2 : Int32) (v3 : Int32) {H : Heap} {locs : List Loc} {ls : Array Slot} (hf : b_X9_freeOf_36 told_gloves told_house S_cells k4 v1 v2 v3 = some r0) (hw : Wo D A s [(oX5 a_told (.int told_gloves) (.int told_matters) (.int told_pride) (.int told_coins) (.ref a_told_house) (.ref a_told_free) (.ref a_told_stuffed) (.ref a_told_after) (.ref a_told_weight) (.ref a_told_need)), (a_told_house, .inl (cI, 6, .inl told_house)), (oX9 a_S (.ref a_S_cells) (.ref a_told) (.ref a_laws)), (a_S_cells, .inl (cI, 69, .inl S_cells))] H locs) (hl : lv_has ls 4 [(0, .ref a_S), (1, .int v1), (2, .int v2), (3, .int v3)]) : W p l e rm_X9_freeOf s m args below meth c H locs 0 0 (MQ below (QcI D A r0 [(oX5 a_told (.int told_gloves) (.int told_matters) (.int told_pride) (.int told_coins) (.ref a_told_house) (.ref a_told_free) (.ref a_told_stuffed) (.ref a_told_after) (.ref a_told_weight) (.ref a_told_need)), (a_told_house, .inl (cI, 6, .inl told_house)), (oX9 a_S (.ref a_S_cells) (.ref a_told) (.ref a_laws)), (a_S_cells, .inl (cI, 69, .inl S_cells))]) args s 0 0 A) (F0 m 36 ls []) := by
  obtain ⟨hx, hb, hml, hown, hts, hr, hlk⟩ := id C
  obtain ⟨hK, hX, hA⟩ := id K
  unfold b_X9_freeOf_36 at hf
  obtain ⟨v3_1, e_v3_1, hf⟩ := bnd_some hf
  refine lv_iinc (v := v3_1) (lv' := [(3, .int v3_1), (0, .ref a_S), (1, .int v1), (2, .int v2)]) hx hb dX9_freeOf_36 hl (k := 3) rfl (by rw [e_v3_1]; rfl) (by decide) rfl (fun ls hl => ?_)
  refine lv_goto (tgt := 4) hx hb dX9_freeOf_39 (by decide) ?_
  exact hk4 v1 v2 v3_1 _ _ _ hf hw (lv_sub hl [1, 2, 3, 0] rfl)
set_option maxHeartbeats 4000000 in
set_option maxRecDepth 100000 in
theorem q_X9_freeOf_4 {p : Program} {l : Launch} {e : Env} {s : State} {m : MethodId} {args : Array Value} {below : List Frame} {meth : Method} {c : Code} {sx : List sx_T} {D : va_G} {cI cZ cO : ClassId} {A : Nat → Prop} (C : Cx p s m args meth c RX9 wsX9_freeOf cX9_freeOf 4 (some .int)) (K : Kx sx D (tyL cI cZ cO) A s) (a_told : Nat) (a_told_house : Nat) (a_told_free : Nat) (a_told_stuffed : Nat) (a_told_after : Nat) (a_told_weight : Nat) (a_told_need : Nat) (a_S : Nat) (a_S_cells : Nat) (a_laws : Nat) (told_gloves : Int32) (told_matters : Int32) (told_pride : Int32) (told_coins : Int32) (told_house : Nat → Int32) (S_cells : Nat → Int32) (r0 : Int32)   (k4 : Int32 → Int32 → Int32 → Option (Int32)) (hk4 : ∀ (v1 : Int32) (v2 : Int32) (v3 : Int32) (H : Heap) (locs : List Loc) (ls : Array Slot), k4 v1 v2 v3 = some r0 → Wo D A s [(oX5 a_told (.int told_gloves) (.int told_matters) (.int told_pride) (.int told_coins) (.ref a_told_house) (.ref a_told_free) (.ref a_told_stuffed) (.ref a_told_after) (.ref a_told_weight) (.ref a_told_need)), (a_told_house, .inl (cI, 6, .inl told_house)), (oX9 a_S (.ref a_S_cells) (.ref a_told) (.ref a_laws)), (a_S_cells, .inl (cI, 69, .inl S_cells))] H locs → lv_has ls 4 [(0, .ref a_S), (1, .int v1), (2, .int v2), (3, .int v3)] → W p l e rm_X9_freeOf s m args below meth c H locs 0 0 (MQ below (QcI D A r0 [(oX5 a_told (.int told_gloves) (.int told_matters) (.int told_pride) (.int told_coins) (.ref a_told_house) (.ref a_told_free) (.ref a_told_stuffed) (.ref a_told_after) (.ref a_told_weight) (.ref a_told_need)), (a_told_house, .inl (cI, 6, .inl told_house)), (oX9 a_S (.ref a_S_cells) (.ref a_told) (.ref a_laws)), (a_S_cells, .inl (cI, 69, .inl S_cells))]) args s 0 0 A) (F0 m 4 ls [])) (v1 : Int32) (v2 : Int32) (v3 : Int32) {H : Heap} {locs : List Loc} {ls : Array Slot} (hf : b_X9_freeOf_4 told_gloves told_house S_cells k4 v1 v2 v3 = some r0) (hw : Wo D A s [(oX5 a_told (.int told_gloves) (.int told_matters) (.int told_pride) (.int told_coins) (.ref a_told_house) (.ref a_told_free) (.ref a_told_stuffed) (.ref a_told_after) (.ref a_told_weight) (.ref a_told_need)), (a_told_house, .inl (cI, 6, .inl told_house)), (oX9 a_S (.ref a_S_cells) (.ref a_told) (.ref a_laws)), (a_S_cells, .inl (cI, 69, .inl S_cells))] H locs) (hl : lv_has ls 4 [(0, .ref a_S), (1, .int v1), (2, .int v2), (3, .int v3)]) : W p l e rm_X9_freeOf s m args below meth c H locs 0 0 (MQ below (QcI D A r0 [(oX5 a_told (.int told_gloves) (.int told_matters) (.int told_pride) (.int told_coins) (.ref a_told_house) (.ref a_told_free) (.ref a_told_stuffed) (.ref a_told_after) (.ref a_told_weight) (.ref a_told_need)), (a_told_house, .inl (cI, 6, .inl told_house)), (oX9 a_S (.ref a_S_cells) (.ref a_told) (.ref a_laws)), (a_S_cells, .inl (cI, 69, .inl S_cells))]) args s 0 0 A) (F0 m 4 ls []) := by
  obtain ⟨hx, hb, hml, hown, hts, hr, hlk⟩ := id C
  obtain ⟨hK, hX, hA⟩ := id K
  unfold b_X9_freeOf_4 at hf
  refine lv_iload_n hx hb dX9_freeOf_4 rfl (lv_at hl 3 rfl) ?_
  refine lv_aload_n hx hb dX9_freeOf_5 rfl (lv_at hl 0 rfl) ?_
  refine va_get (ci := 9) (v := .ref a_told) (C := RX9) (T := TX9) (N := 3) hx hb hts in_X9_freeOf_X9 hown hK hw.1 2 rfl rfl 1 (by decide) (hts _ lk_X9_freeOf_0) (fun _ h9 => h9) rfl dX9_freeOf_6 ?_
  refine va_get (ci := 5) (v := .int told_gloves) (C := RX5) (T := TX5) (N := 10) hx hb hts in_X9_freeOf_X5 hown hK hw.1 0 rfl rfl 0 (by decide) (hts _ lk_X9_freeOf_1) (fun _ h9 => h9) rfl dX9_freeOf_9 ?_
  refine lv_icmp_ge (tgt := 42) hx hb dX9_freeOf_12 (by decide) (fun hc => ?_) (fun hc => ?_)
  · have hf := (if_pos hc).symm.trans hf
    refine lv_iload_n hx hb dX9_freeOf_42 rfl (lv_at hl 2 rfl) ?_
    clear hk4; cases hf
    exact retI C hw dX9_freeOf_43 rfl
  · have hf := (if_neg hc).symm.trans hf
    refine lv_aload_n hx hb dX9_freeOf_15 rfl (lv_at hl 0 rfl) ?_
    refine va_get (ci := 9) (v := .ref a_told) (C := RX9) (T := TX9) (N := 3) hx hb hts in_X9_freeOf_X9 hown hK hw.1 2 rfl rfl 1 (by decide) (hts _ lk_X9_freeOf_0) (fun _ h9 => h9) rfl dX9_freeOf_16 ?_
    refine va_get (ci := 5) (v := .ref a_told_house) (C := RX5) (T := TX5) (N := 10) hx hb hts in_X9_freeOf_X5 hown hK hw.1 0 rfl rfl 4 (by decide) (hts _ lk_X9_freeOf_2) (fun _ h9 => h9) rfl dX9_freeOf_19 ?_
    refine lv_iload_n hx hb dX9_freeOf_22 rfl (lv_at hl 3 rfl) ?_
    obtain ⟨hc_1, hf⟩ := gd_some hf
    refine va_iald hx hb hK hw.1 1 0 rfl rfl (inB_in hc_1) dX9_freeOf_23 ?_
    refine lv_iload_n hx hb dX9_freeOf_24 rfl (lv_at hl 1 rfl) ?_
    refine lv_icmp_ne (tgt := 36) hx hb dX9_freeOf_25 (by decide) (fun hc => ?_) (fun hc => ?_)
    · have hf := (if_neg hc).symm.trans hf
      exact q_X9_freeOf_36 C K a_told a_told_house a_told_free a_told_stuffed a_told_after a_told_weight a_told_need a_S a_S_cells a_laws told_gloves told_matters told_pride told_coins told_house S_cells r0 k4 hk4 v1 v2 v3 hf hw (lv_sub hl [0, 1, 2, 3] rfl)
    · have hf := (if_pos hc).symm.trans hf
      refine lv_iload_n hx hb dX9_freeOf_28 rfl (lv_at hl 2 rfl) ?_
      refine lv_aload_n hx hb dX9_freeOf_29 rfl (lv_at hl 0 rfl) ?_
      refine lv_iload_n hx hb dX9_freeOf_30 rfl (lv_at hl 3 rfl) ?_
      obtain ⟨r_2, hg_3, hf⟩ := ob1_some hf
      refine cl_ViA (As := [.int v3]) (rest := [.int v2]) C K hw (k_X9_free a_S a_S_cells a_told a_laws S_cells r_2 v3 hg_3) [2, 3] rfl (by decide) rfl rfl (ci := 9) (j := 2) rfl rfl (cwV 1 hts gX9_freeOf_X9_free rfl rfl rfl (by decide +kernel) ⟨Nat.le_of_ble_eq_true rfl, Nat.le_of_ble_eq_true rfl⟩) rfl hl rfl (Nat.le_of_ble_eq_true rfl) dX9_freeOf_31 ⟨Nat.zero_le _, Nat.zero_le _⟩ (fun H locs hw => ?_)
      have hw : Wo D A s [(oX5 a_told (.int told_gloves) (.int told_matters) (.int told_pride) (.int told_coins) (.ref a_told_house) (.ref a_told_free) (.ref a_told_stuffed) (.ref a_told_after) (.ref a_told_weight) (.ref a_told_need)), (a_told_house, .inl (cI, 6, .inl told_house)), (oX9 a_S (.ref a_S_cells) (.ref a_told) (.ref a_laws)), (a_S_cells, .inl (cI, 69, .inl S_cells))] H locs := hw
      refine lv_iadd hx hb dX9_freeOf_34 ?_
      obtain ⟨v2_4, e_v2_4, hf⟩ := bnd_some hf
      refine lv_nmi e_v2_4 ?_
      refine lv_istore_n (lv' := [(2, .int v2_4), (0, .ref a_S), (1, .int v1), (3, .int v3)]) hx hb dX9_freeOf_35 rfl hl (by decide) rfl (fun ls hl => ?_)
      exact q_X9_freeOf_36 C K a_told a_told_house a_told_free a_told_stuffed a_told_after a_told_weight a_told_need a_S a_S_cells a_laws told_gloves told_matters told_pride told_coins told_house S_cells r0 k4 hk4 v1 v2_4 v3 hf hw (lv_sub hl [1, 2, 0, 3] rfl)
theorem qf_X9_freeOf_4 {p : Program} {l : Launch} {e : Env} {s : State} {m : MethodId} {args : Array Value} {below : List Frame} {meth : Method} {c : Code} {sx : List sx_T} {D : va_G} {cI cZ cO : ClassId} {A : Nat → Prop} (C : Cx p s m args meth c RX9 wsX9_freeOf cX9_freeOf 4 (some .int)) (K : Kx sx D (tyL cI cZ cO) A s) (a_told : Nat) (a_told_house : Nat) (a_told_free : Nat) (a_told_stuffed : Nat) (a_told_after : Nat) (a_told_weight : Nat) (a_told_need : Nat) (a_S : Nat) (a_S_cells : Nat) (a_laws : Nat) (told_gloves : Int32) (told_matters : Int32) (told_pride : Int32) (told_coins : Int32) (told_house : Nat → Int32) (S_cells : Nat → Int32) (r0 : Int32)    (n : Nat) : ∀ (v1 : Int32) (v2 : Int32) (v3 : Int32) (H : Heap) (locs : List Loc) (ls : Array Slot), f_X9_freeOf_4 told_gloves told_house S_cells  n v1 v2 v3 = some r0 → Wo D A s [(oX5 a_told (.int told_gloves) (.int told_matters) (.int told_pride) (.int told_coins) (.ref a_told_house) (.ref a_told_free) (.ref a_told_stuffed) (.ref a_told_after) (.ref a_told_weight) (.ref a_told_need)), (a_told_house, .inl (cI, 6, .inl told_house)), (oX9 a_S (.ref a_S_cells) (.ref a_told) (.ref a_laws)), (a_S_cells, .inl (cI, 69, .inl S_cells))] H locs → lv_has ls 4 [(0, .ref a_S), (1, .int v1), (2, .int v2), (3, .int v3)] → W p l e rm_X9_freeOf s m args below meth c H locs 0 0 (MQ below (QcI D A r0 [(oX5 a_told (.int told_gloves) (.int told_matters) (.int told_pride) (.int told_coins) (.ref a_told_house) (.ref a_told_free) (.ref a_told_stuffed) (.ref a_told_after) (.ref a_told_weight) (.ref a_told_need)), (a_told_house, .inl (cI, 6, .inl told_house)), (oX9 a_S (.ref a_S_cells) (.ref a_told) (.ref a_laws)), (a_S_cells, .inl (cI, 69, .inl S_cells))]) args s 0 0 A) (F0 m 4 ls []) := by
  induction n with
  | zero =>
    intro v1 v2 v3 H locs ls hf
    have h9 : (none : Option (Int32)) = some r0 := hf
    cases h9
  | succ n ih =>
    intro v1 v2 v3 H locs ls hf hw hl
    exact q_X9_freeOf_4 C K a_told a_told_house a_told_free a_told_stuffed a_told_after a_told_weight a_told_need a_S a_S_cells a_laws told_gloves told_matters told_pride told_coins told_house S_cells r0  (f_X9_freeOf_4 told_gloves told_house S_cells  n) ih v1 v2 v3 hf hw hl
set_option maxHeartbeats 4000000 in
set_option maxRecDepth 100000 in
theorem q_X9_freeOf_0 {p : Program} {l : Launch} {e : Env} {s : State} {m : MethodId} {args : Array Value} {below : List Frame} {meth : Method} {c : Code} {sx : List sx_T} {D : va_G} {cI cZ cO : ClassId} {A : Nat → Prop} (C : Cx p s m args meth c RX9 wsX9_freeOf cX9_freeOf 4 (some .int)) (K : Kx sx D (tyL cI cZ cO) A s) (a_told : Nat) (a_told_house : Nat) (a_told_free : Nat) (a_told_stuffed : Nat) (a_told_after : Nat) (a_told_weight : Nat) (a_told_need : Nat) (a_S : Nat) (a_S_cells : Nat) (a_laws : Nat) (told_gloves : Int32) (told_matters : Int32) (told_pride : Int32) (told_coins : Int32) (told_house : Nat → Int32) (S_cells : Nat → Int32) (r0 : Int32)    (v1 : Int32) {H : Heap} {locs : List Loc} {ls : Array Slot} (hf : b_X9_freeOf_0 told_gloves told_house S_cells  v1 = some r0) (hw : Wo D A s [(oX5 a_told (.int told_gloves) (.int told_matters) (.int told_pride) (.int told_coins) (.ref a_told_house) (.ref a_told_free) (.ref a_told_stuffed) (.ref a_told_after) (.ref a_told_weight) (.ref a_told_need)), (a_told_house, .inl (cI, 6, .inl told_house)), (oX9 a_S (.ref a_S_cells) (.ref a_told) (.ref a_laws)), (a_S_cells, .inl (cI, 69, .inl S_cells))] H locs) (hl : lv_has ls 4 [(0, .ref a_S), (1, .int v1)]) : W p l e rm_X9_freeOf s m args below meth c H locs 0 0 (MQ below (QcI D A r0 [(oX5 a_told (.int told_gloves) (.int told_matters) (.int told_pride) (.int told_coins) (.ref a_told_house) (.ref a_told_free) (.ref a_told_stuffed) (.ref a_told_after) (.ref a_told_weight) (.ref a_told_need)), (a_told_house, .inl (cI, 6, .inl told_house)), (oX9 a_S (.ref a_S_cells) (.ref a_told) (.ref a_laws)), (a_S_cells, .inl (cI, 69, .inl S_cells))]) args s 0 0 A) (F0 m 0 ls []) := by
  obtain ⟨hx, hb, hml, hown, hts, hr, hlk⟩ := id C
  obtain ⟨hK, hX, hA⟩ := id K
  unfold b_X9_freeOf_0 at hf
  refine lv_iconst (v := (0 : Int32)) hx hb dX9_freeOf_0 (by decide) ?_
  refine lv_istore_n (lv' := [(2, .int (0 : Int32)), (0, .ref a_S), (1, .int v1)]) hx hb dX9_freeOf_1 rfl hl (by decide) rfl (fun ls hl => ?_)
  refine lv_iconst (v := (0 : Int32)) hx hb dX9_freeOf_2 (by decide) ?_
  refine lv_istore_n (lv' := [(3, .int (0 : Int32)), (2, .int (0 : Int32)), (0, .ref a_S), (1, .int v1)]) hx hb dX9_freeOf_3 rfl hl (by decide) rfl (fun ls hl => ?_)
  exact qf_X9_freeOf_4 C K a_told a_told_house a_told_free a_told_stuffed a_told_after a_told_weight a_told_need a_S a_S_cells a_laws told_gloves told_matters told_pride told_coins told_house S_cells r0  fu v1 (0 : Int32) (0 : Int32) _ _ _ hf hw (lv_sub hl [2, 3, 1, 0] rfl)
set_option maxHeartbeats 4000000 in
set_option maxRecDepth 100000 in
theorem k_X9_freeOf {l : Launch} {sx : List sx_T} {D : va_G} {cI cZ cO : ClassId} (a_told : Nat) (a_told_house : Nat) (a_told_free : Nat) (a_told_stuffed : Nat) (a_told_after : Nat) (a_told_weight : Nat) (a_told_need : Nat) (a_S : Nat) (a_S_cells : Nat) (a_laws : Nat) (told_gloves : Int32) (told_matters : Int32) (told_pride : Int32) (told_coins : Int32) (told_house : Nat → Int32) (S_cells : Nat → Int32) (r0 : Int32) (p1 : Int32) (hF : f_X9_freeOf told_gloves told_house S_cells p1 = some r0) : CtI l yX9_freeOf wsX9_freeOf rm_X9_freeOf sx D (tyL cI cZ cO) [.ref a_S, .int p1] [(oX5 a_told (.int told_gloves) (.int told_matters) (.int told_pride) (.int told_coins) (.ref a_told_house) (.ref a_told_free) (.ref a_told_stuffed) (.ref a_told_after) (.ref a_told_weight) (.ref a_told_need)), (a_told_house, .inl (cI, 6, .inl told_house)), (oX9 a_S (.ref a_S_cells) (.ref a_told) (.ref a_laws)), (a_S_cells, .inl (cI, 69, .inl S_cells))] r0 [(oX5 a_told (.int told_gloves) (.int told_matters) (.int told_pride) (.int told_coins) (.ref a_told_house) (.ref a_told_free) (.ref a_told_stuffed) (.ref a_told_after) (.ref a_told_weight) (.ref a_told_need)), (a_told_house, .inl (cI, 6, .inl told_house)), (oX9 a_S (.ref a_S_cells) (.ref a_told) (.ref a_laws)), (a_S_cells, .inl (cI, 69, .inl S_cells))] := by
  refine ctI_of (cc := cX9_freeOf) (ret := (some .int)) (maxL := 4) (by decide) rfl (Nat.le_of_ble_eq_true rfl) ?_
  intro p e s m below meth c A ls C K hw hl
  exact q_X9_freeOf_0 C K a_told a_told_house a_told_free a_told_stuffed a_told_after a_told_weight a_told_need a_S a_S_cells a_laws told_gloves told_matters told_pride told_coins told_house S_cells r0 p1 hF hw (lv_sub hl [0, 1] rfl)
abbrev rm_X9_signedBits : Room := { frames := 1, cells := 0, slots := 0, locals := 21 }
theorem in_X9_signedBits_X9 : ∀ w ∈ u_ws RX9 TX9 3, w ∈ wsX9_signedBits := fun w h => List.mem_cons_of_mem _ (bi_wsX90 w h)
theorem in_X9_signedBits_X5 : ∀ w ∈ u_ws RX5 TX5 10, w ∈ wsX9_signedBits := fun w h => List.mem_cons_of_mem _ (bi_wsX50 w h)
theorem lk_X9_signedBits_0 : Cond.fieldLink RX9 15 "GloveHouses$State" "told" "LGloveHouses$Peace;" ∈ wsX9_signedBits := List.mem_cons_of_mem _ (bi_wsL_law0_r5 _ (List.mem_of_getElem? (i := 12) rfl))
theorem lk_X9_signedBits_1 : Cond.fieldLink RX9 93 "GloveHouses$Peace" "matters" "I" ∈ wsX9_signedBits := List.mem_cons_of_mem _ (bi_wsL_law0_r31 _ (List.mem_of_getElem? (i := 8) rfl))
set_option maxHeartbeats 4000000 in
set_option maxRecDepth 100000 in
theorem q_X9_signedBits_30 {p : Program} {l : Launch} {e : Env} {s : State} {m : MethodId} {args : Array Value} {below : List Frame} {meth : Method} {c : Code} {sx : List sx_T} {D : va_G} {cI cZ cO : ClassId} {A : Nat → Prop} (C : Cx p s m args meth c RX9 wsX9_signedBits cX9_signedBits 3 (some .int)) (K : Kx sx D (tyL cI cZ cO) A s) (a_told : Nat) (a_told_house : Nat) (a_told_free : Nat) (a_told_stuffed : Nat) (a_told_after : Nat) (a_told_weight : Nat) (a_told_need : Nat) (a_S : Nat) (a_S_cells : Nat) (a_laws : Nat) (told_gloves : Int32) (told_matters : Int32) (told_pride : Int32) (told_coins : Int32) (S_cells : Nat → Int32) (r0 : Int32)   (k4 : Int32 → Int32 → Option (Int32)) (hk4 : ∀ (v1 : Int32) (v2 : Int32) (H : Heap) (locs : List Loc) (ls : Array Slot), k4 v1 v2 = some r0 → Wo D A s [(oX5 a_told (.int told_gloves) (.int told_matters) (.int told_pride) (.int told_coins) (.ref a_told_house) (.ref a_told_free) (.ref a_told_stuffed) (.ref a_told_after) (.ref a_told_weight) (.ref a_told_need)), (oX9 a_S (.ref a_S_cells) (.ref a_told) (.ref a_laws)), (a_S_cells, .inl (cI, 69, .inl S_cells))] H locs → lv_has ls 3 [(0, .ref a_S), (1, .int v1), (2, .int v2)] → W p l e rm_X9_signedBits s m args below meth c H locs 0 0 (MQ below (QcI D A r0 [(oX5 a_told (.int told_gloves) (.int told_matters) (.int told_pride) (.int told_coins) (.ref a_told_house) (.ref a_told_free) (.ref a_told_stuffed) (.ref a_told_after) (.ref a_told_weight) (.ref a_told_need)), (oX9 a_S (.ref a_S_cells) (.ref a_told) (.ref a_laws)), (a_S_cells, .inl (cI, 69, .inl S_cells))]) args s 0 0 A) (F0 m 4 ls [])) (v1 : Int32) (v2 : Int32) {H : Heap} {locs : List Loc} {ls : Array Slot} (hf : b_X9_signedBits_30 told_matters S_cells k4 v1 v2 = some r0) (hw : Wo D A s [(oX5 a_told (.int told_gloves) (.int told_matters) (.int told_pride) (.int told_coins) (.ref a_told_house) (.ref a_told_free) (.ref a_told_stuffed) (.ref a_told_after) (.ref a_told_weight) (.ref a_told_need)), (oX9 a_S (.ref a_S_cells) (.ref a_told) (.ref a_laws)), (a_S_cells, .inl (cI, 69, .inl S_cells))] H locs) (hl : lv_has ls 3 [(0, .ref a_S), (1, .int v1), (2, .int v2)]) : W p l e rm_X9_signedBits s m args below meth c H locs 0 0 (MQ below (QcI D A r0 [(oX5 a_told (.int told_gloves) (.int told_matters) (.int told_pride) (.int told_coins) (.ref a_told_house) (.ref a_told_free) (.ref a_told_stuffed) (.ref a_told_after) (.ref a_told_weight) (.ref a_told_need)), (oX9 a_S (.ref a_S_cells) (.ref a_told) (.ref a_laws)), (a_S_cells, .inl (cI, 69, .inl S_cells))]) args s 0 0 A) (F0 m 30 ls []) := by
  obtain ⟨hx, hb, hml, hown, hts, hr, hlk⟩ := id C
  obtain ⟨hK, hX, hA⟩ := id K
  unfold b_X9_signedBits_30 at hf
  obtain ⟨v2_1, e_v2_1, hf⟩ := bnd_some hf
  refine lv_iinc (v := v2_1) (lv' := [(2, .int v2_1), (0, .ref a_S), (1, .int v1)]) hx hb dX9_signedBits_30 hl (k := 2) rfl (by rw [e_v2_1]; rfl) (by decide) rfl (fun ls hl => ?_)
  refine lv_goto (tgt := 4) hx hb dX9_signedBits_33 (by decide) ?_
  exact hk4 v1 v2_1 _ _ _ hf hw (lv_sub hl [1, 2, 0] rfl)
set_option maxHeartbeats 4000000 in
set_option maxRecDepth 100000 in
theorem q_X9_signedBits_4 {p : Program} {l : Launch} {e : Env} {s : State} {m : MethodId} {args : Array Value} {below : List Frame} {meth : Method} {c : Code} {sx : List sx_T} {D : va_G} {cI cZ cO : ClassId} {A : Nat → Prop} (C : Cx p s m args meth c RX9 wsX9_signedBits cX9_signedBits 3 (some .int)) (K : Kx sx D (tyL cI cZ cO) A s) (a_told : Nat) (a_told_house : Nat) (a_told_free : Nat) (a_told_stuffed : Nat) (a_told_after : Nat) (a_told_weight : Nat) (a_told_need : Nat) (a_S : Nat) (a_S_cells : Nat) (a_laws : Nat) (told_gloves : Int32) (told_matters : Int32) (told_pride : Int32) (told_coins : Int32) (S_cells : Nat → Int32) (r0 : Int32)   (k4 : Int32 → Int32 → Option (Int32)) (hk4 : ∀ (v1 : Int32) (v2 : Int32) (H : Heap) (locs : List Loc) (ls : Array Slot), k4 v1 v2 = some r0 → Wo D A s [(oX5 a_told (.int told_gloves) (.int told_matters) (.int told_pride) (.int told_coins) (.ref a_told_house) (.ref a_told_free) (.ref a_told_stuffed) (.ref a_told_after) (.ref a_told_weight) (.ref a_told_need)), (oX9 a_S (.ref a_S_cells) (.ref a_told) (.ref a_laws)), (a_S_cells, .inl (cI, 69, .inl S_cells))] H locs → lv_has ls 3 [(0, .ref a_S), (1, .int v1), (2, .int v2)] → W p l e rm_X9_signedBits s m args below meth c H locs 0 0 (MQ below (QcI D A r0 [(oX5 a_told (.int told_gloves) (.int told_matters) (.int told_pride) (.int told_coins) (.ref a_told_house) (.ref a_told_free) (.ref a_told_stuffed) (.ref a_told_after) (.ref a_told_weight) (.ref a_told_need)), (oX9 a_S (.ref a_S_cells) (.ref a_told) (.ref a_laws)), (a_S_cells, .inl (cI, 69, .inl S_cells))]) args s 0 0 A) (F0 m 4 ls [])) (v1 : Int32) (v2 : Int32) {H : Heap} {locs : List Loc} {ls : Array Slot} (hf : b_X9_signedBits_4 told_matters S_cells k4 v1 v2 = some r0) (hw : Wo D A s [(oX5 a_told (.int told_gloves) (.int told_matters) (.int told_pride) (.int told_coins) (.ref a_told_house) (.ref a_told_free) (.ref a_told_stuffed) (.ref a_told_after) (.ref a_told_weight) (.ref a_told_need)), (oX9 a_S (.ref a_S_cells) (.ref a_told) (.ref a_laws)), (a_S_cells, .inl (cI, 69, .inl S_cells))] H locs) (hl : lv_has ls 3 [(0, .ref a_S), (1, .int v1), (2, .int v2)]) : W p l e rm_X9_signedBits s m args below meth c H locs 0 0 (MQ below (QcI D A r0 [(oX5 a_told (.int told_gloves) (.int told_matters) (.int told_pride) (.int told_coins) (.ref a_told_house) (.ref a_told_free) (.ref a_told_stuffed) (.ref a_told_after) (.ref a_told_weight) (.ref a_told_need)), (oX9 a_S (.ref a_S_cells) (.ref a_told) (.ref a_laws)), (a_S_cells, .inl (cI, 69, .inl S_cells))]) args s 0 0 A) (F0 m 4 ls []) := by
  obtain ⟨hx, hb, hml, hown, hts, hr, hlk⟩ := id C
  obtain ⟨hK, hX, hA⟩ := id K
  unfold b_X9_signedBits_4 at hf
  refine lv_iload_n hx hb dX9_signedBits_4 rfl (lv_at hl 2 rfl) ?_
  refine lv_aload_n hx hb dX9_signedBits_5 rfl (lv_at hl 0 rfl) ?_
  refine va_get (ci := 9) (v := .ref a_told) (C := RX9) (T := TX9) (N := 3) hx hb hts in_X9_signedBits_X9 hown hK hw.1 1 rfl rfl 1 (by decide) (hts _ lk_X9_signedBits_0) (fun _ h9 => h9) rfl dX9_signedBits_6 ?_
  refine va_get (ci := 5) (v := .int told_matters) (C := RX5) (T := TX5) (N := 10) hx hb hts in_X9_signedBits_X5 hown hK hw.1 0 rfl rfl 1 (by decide) (hts _ lk_X9_signedBits_1) (fun _ h9 => h9) rfl dX9_signedBits_9 ?_
  refine lv_icmp_ge (tgt := 36) hx hb dX9_signedBits_12 (by decide) (fun hc => ?_) (fun hc => ?_)
  · have hf := (if_pos hc).symm.trans hf
    refine lv_iload_n hx hb dX9_signedBits_36 rfl (lv_at hl 1 rfl) ?_
    clear hk4; cases hf
    exact retI C hw dX9_signedBits_37 rfl
  · have hf := (if_neg hc).symm.trans hf
    refine lv_aload_n hx hb dX9_signedBits_15 rfl (lv_at hl 0 rfl) ?_
    refine lv_iload_n hx hb dX9_signedBits_16 rfl (lv_at hl 2 rfl) ?_
    obtain ⟨r_1, hg_2, hf⟩ := ob1_some hf
    refine cl_ViA (As := [.int v2]) (rest := []) C K hw (k_X9_signers a_S a_S_cells a_told a_laws S_cells r_1 v2 hg_2) [1, 2] rfl (by decide) rfl rfl (ci := 9) (j := 1) rfl rfl (cwV 1 hts gX9_signedBits_X9_signers rfl rfl rfl (by decide +kernel) ⟨Nat.le_of_ble_eq_true rfl, Nat.le_of_ble_eq_true rfl⟩) rfl hl rfl (Nat.le_of_ble_eq_true rfl) dX9_signedBits_17 ⟨Nat.zero_le _, Nat.zero_le _⟩ (fun H locs hw => ?_)
    have hw : Wo D A s [(oX5 a_told (.int told_gloves) (.int told_matters) (.int told_pride) (.int told_coins) (.ref a_told_house) (.ref a_told_free) (.ref a_told_stuffed) (.ref a_told_after) (.ref a_told_weight) (.ref a_told_need)), (oX9 a_S (.ref a_S_cells) (.ref a_told) (.ref a_laws)), (a_S_cells, .inl (cI, 69, .inl S_cells))] H locs := hw
    refine lv_iconst (v := (-1 : Int32)) hx hb dX9_signedBits_20 (by decide) ?_
    refine lv_icmp_eq (tgt := 30) hx hb dX9_signedBits_21 (by decide) (fun hc => ?_) (fun hc => ?_)
    · have hf := (if_pos hc).symm.trans hf
      exact q_X9_signedBits_30 C K a_told a_told_house a_told_free a_told_stuffed a_told_after a_told_weight a_told_need a_S a_S_cells a_laws told_gloves told_matters told_pride told_coins S_cells r0 k4 hk4 v1 v2 hf hw (lv_sub hl [0, 1, 2] rfl)
    · have hf := (if_neg hc).symm.trans hf
      refine lv_iload_n hx hb dX9_signedBits_24 rfl (lv_at hl 1 rfl) ?_
      refine lv_iconst (v := (1 : Int32)) hx hb dX9_signedBits_25 (by decide) ?_
      refine lv_iload_n hx hb dX9_signedBits_26 rfl (lv_at hl 2 rfl) ?_
      refine lv_ishl hx hb dX9_signedBits_27 ?_
      refine lv_ior hx hb dX9_signedBits_28 ?_
      obtain ⟨v1_3, e_v1_3, hf⟩ := bnd_some hf
      refine lv_nmi e_v1_3 ?_
      refine lv_istore_n (lv' := [(1, .int v1_3), (0, .ref a_S), (2, .int v2)]) hx hb dX9_signedBits_29 rfl hl (by decide) rfl (fun ls hl => ?_)
      exact q_X9_signedBits_30 C K a_told a_told_house a_told_free a_told_stuffed a_told_after a_told_weight a_told_need a_S a_S_cells a_laws told_gloves told_matters told_pride told_coins S_cells r0 k4 hk4 v1_3 v2 hf hw (lv_sub hl [1, 0, 2] rfl)
theorem qf_X9_signedBits_4 {p : Program} {l : Launch} {e : Env} {s : State} {m : MethodId} {args : Array Value} {below : List Frame} {meth : Method} {c : Code} {sx : List sx_T} {D : va_G} {cI cZ cO : ClassId} {A : Nat → Prop} (C : Cx p s m args meth c RX9 wsX9_signedBits cX9_signedBits 3 (some .int)) (K : Kx sx D (tyL cI cZ cO) A s) (a_told : Nat) (a_told_house : Nat) (a_told_free : Nat) (a_told_stuffed : Nat) (a_told_after : Nat) (a_told_weight : Nat) (a_told_need : Nat) (a_S : Nat) (a_S_cells : Nat) (a_laws : Nat) (told_gloves : Int32) (told_matters : Int32) (told_pride : Int32) (told_coins : Int32) (S_cells : Nat → Int32) (r0 : Int32)    (n : Nat) : ∀ (v1 : Int32) (v2 : Int32) (H : Heap) (locs : List Loc) (ls : Array Slot), f_X9_signedBits_4 told_matters S_cells  n v1 v2 = some r0 → Wo D A s [(oX5 a_told (.int told_gloves) (.int told_matters) (.int told_pride) (.int told_coins) (.ref a_told_house) (.ref a_told_free) (.ref a_told_stuffed) (.ref a_told_after) (.ref a_told_weight) (.ref a_told_need)), (oX9 a_S (.ref a_S_cells) (.ref a_told) (.ref a_laws)), (a_S_cells, .inl (cI, 69, .inl S_cells))] H locs → lv_has ls 3 [(0, .ref a_S), (1, .int v1), (2, .int v2)] → W p l e rm_X9_signedBits s m args below meth c H locs 0 0 (MQ below (QcI D A r0 [(oX5 a_told (.int told_gloves) (.int told_matters) (.int told_pride) (.int told_coins) (.ref a_told_house) (.ref a_told_free) (.ref a_told_stuffed) (.ref a_told_after) (.ref a_told_weight) (.ref a_told_need)), (oX9 a_S (.ref a_S_cells) (.ref a_told) (.ref a_laws)), (a_S_cells, .inl (cI, 69, .inl S_cells))]) args s 0 0 A) (F0 m 4 ls []) := by
  induction n with
  | zero =>
    intro v1 v2 H locs ls hf
    have h9 : (none : Option (Int32)) = some r0 := hf
    cases h9
  | succ n ih =>
    intro v1 v2 H locs ls hf hw hl
    exact q_X9_signedBits_4 C K a_told a_told_house a_told_free a_told_stuffed a_told_after a_told_weight a_told_need a_S a_S_cells a_laws told_gloves told_matters told_pride told_coins S_cells r0  (f_X9_signedBits_4 told_matters S_cells  n) ih v1 v2 hf hw hl
set_option maxHeartbeats 4000000 in
set_option maxRecDepth 100000 in
theorem q_X9_signedBits_0 {p : Program} {l : Launch} {e : Env} {s : State} {m : MethodId} {args : Array Value} {below : List Frame} {meth : Method} {c : Code} {sx : List sx_T} {D : va_G} {cI cZ cO : ClassId} {A : Nat → Prop} (C : Cx p s m args meth c RX9 wsX9_signedBits cX9_signedBits 3 (some .int)) (K : Kx sx D (tyL cI cZ cO) A s) (a_told : Nat) (a_told_house : Nat) (a_told_free : Nat) (a_told_stuffed : Nat) (a_told_after : Nat) (a_told_weight : Nat) (a_told_need : Nat) (a_S : Nat) (a_S_cells : Nat) (a_laws : Nat) (told_gloves : Int32) (told_matters : Int32) (told_pride : Int32) (told_coins : Int32) (S_cells : Nat → Int32) (r0 : Int32)     {H : Heap} {locs : List Loc} {ls : Array Slot} (hf : b_X9_signedBits_0 told_matters S_cells   = some r0) (hw : Wo D A s [(oX5 a_told (.int told_gloves) (.int told_matters) (.int told_pride) (.int told_coins) (.ref a_told_house) (.ref a_told_free) (.ref a_told_stuffed) (.ref a_told_after) (.ref a_told_weight) (.ref a_told_need)), (oX9 a_S (.ref a_S_cells) (.ref a_told) (.ref a_laws)), (a_S_cells, .inl (cI, 69, .inl S_cells))] H locs) (hl : lv_has ls 3 [(0, .ref a_S)]) : W p l e rm_X9_signedBits s m args below meth c H locs 0 0 (MQ below (QcI D A r0 [(oX5 a_told (.int told_gloves) (.int told_matters) (.int told_pride) (.int told_coins) (.ref a_told_house) (.ref a_told_free) (.ref a_told_stuffed) (.ref a_told_after) (.ref a_told_weight) (.ref a_told_need)), (oX9 a_S (.ref a_S_cells) (.ref a_told) (.ref a_laws)), (a_S_cells, .inl (cI, 69, .inl S_cells))]) args s 0 0 A) (F0 m 0 ls []) := by
  obtain ⟨hx, hb, hml, hown, hts, hr, hlk⟩ := id C
  obtain ⟨hK, hX, hA⟩ := id K
  unfold b_X9_signedBits_0 at hf
  refine lv_iconst (v := (0 : Int32)) hx hb dX9_signedBits_0 (by decide) ?_
  refine lv_istore_n (lv' := [(1, .int (0 : Int32)), (0, .ref a_S)]) hx hb dX9_signedBits_1 rfl hl (by decide) rfl (fun ls hl => ?_)
  refine lv_iconst (v := (0 : Int32)) hx hb dX9_signedBits_2 (by decide) ?_
  refine lv_istore_n (lv' := [(2, .int (0 : Int32)), (1, .int (0 : Int32)), (0, .ref a_S)]) hx hb dX9_signedBits_3 rfl hl (by decide) rfl (fun ls hl => ?_)
  exact qf_X9_signedBits_4 C K a_told a_told_house a_told_free a_told_stuffed a_told_after a_told_weight a_told_need a_S a_S_cells a_laws told_gloves told_matters told_pride told_coins S_cells r0  fu (0 : Int32) (0 : Int32) _ _ _ hf hw (lv_sub hl [2, 1, 0] rfl)
set_option maxHeartbeats 4000000 in
set_option maxRecDepth 100000 in
theorem k_X9_signedBits {l : Launch} {sx : List sx_T} {D : va_G} {cI cZ cO : ClassId} (a_told : Nat) (a_told_house : Nat) (a_told_free : Nat) (a_told_stuffed : Nat) (a_told_after : Nat) (a_told_weight : Nat) (a_told_need : Nat) (a_S : Nat) (a_S_cells : Nat) (a_laws : Nat) (told_gloves : Int32) (told_matters : Int32) (told_pride : Int32) (told_coins : Int32) (S_cells : Nat → Int32) (r0 : Int32) (hF : f_X9_signedBits told_matters S_cells = some r0) : CtI l yX9_signedBits wsX9_signedBits rm_X9_signedBits sx D (tyL cI cZ cO) [.ref a_S] [(oX5 a_told (.int told_gloves) (.int told_matters) (.int told_pride) (.int told_coins) (.ref a_told_house) (.ref a_told_free) (.ref a_told_stuffed) (.ref a_told_after) (.ref a_told_weight) (.ref a_told_need)), (oX9 a_S (.ref a_S_cells) (.ref a_told) (.ref a_laws)), (a_S_cells, .inl (cI, 69, .inl S_cells))] r0 [(oX5 a_told (.int told_gloves) (.int told_matters) (.int told_pride) (.int told_coins) (.ref a_told_house) (.ref a_told_free) (.ref a_told_stuffed) (.ref a_told_after) (.ref a_told_weight) (.ref a_told_need)), (oX9 a_S (.ref a_S_cells) (.ref a_told) (.ref a_laws)), (a_S_cells, .inl (cI, 69, .inl S_cells))] := by
  refine ctI_of (cc := cX9_signedBits) (ret := (some .int)) (maxL := 3) (by decide) rfl (Nat.le_of_ble_eq_true rfl) ?_
  intro p e s m below meth c A ls C K hw hl
  exact q_X9_signedBits_0 C K a_told a_told_house a_told_free a_told_stuffed a_told_after a_told_weight a_told_need a_S a_S_cells a_laws told_gloves told_matters told_pride told_coins S_cells r0  hF hw (lv_sub hl [0] rfl)
abbrev rm_X9_pairMost : Room := { frames := 2, cells := 0, slots := 0, locals := 43 }
theorem in_X9_pairMost_X9 : ∀ w ∈ u_ws RX9 TX9 3, w ∈ wsX9_pairMost := fun w h => List.mem_cons_of_mem _ (bi_wsX90 w h)
theorem in_X9_pairMost_X5 : ∀ w ∈ u_ws RX5 TX5 10, w ∈ wsX9_pairMost := fun w h => List.mem_cons_of_mem _ (bi_wsX50 w h)
theorem lk_X9_pairMost_0 : Cond.fieldLink RX9 15 "GloveHouses$State" "told" "LGloveHouses$Peace;" ∈ wsX9_pairMost := List.mem_cons_of_mem _ (bi_wsL_law0_r5 _ (List.mem_of_getElem? (i := 12) rfl))
theorem lk_X9_pairMost_1 : Cond.fieldLink RX9 102 "GloveHouses$Peace" "gloves" "I" ∈ wsX9_pairMost := List.mem_cons_of_mem _ (bi_wsL_law0_r37 _ (List.mem_of_getElem? (i := 4) rfl))
set_option maxHeartbeats 4000000 in
set_option maxRecDepth 100000 in
theorem q_X9_pairMost_83 {p : Program} {l : Launch} {e : Env} {s : State} {m : MethodId} {args : Array Value} {below : List Frame} {meth : Method} {c : Code} {sx : List sx_T} {D : va_G} {cI cZ cO : ClassId} {A : Nat → Prop} (C : Cx p s m args meth c RX9 wsX9_pairMost cX9_pairMost 5 (some .int)) (K : Kx sx D (tyL cI cZ cO) A s) (a_told : Nat) (a_told_house : Nat) (a_told_free : Nat) (a_told_stuffed : Nat) (a_told_after : Nat) (a_told_weight : Nat) (a_told_need : Nat) (a_S : Nat) (a_S_cells : Nat) (a_laws : Nat) (told_gloves : Int32) (told_matters : Int32) (told_pride : Int32) (told_coins : Int32) (told_house : Nat → Int32) (S_cells : Nat → Int32) (r0 : Int32)   (k4 : Int32 → Int32 → Int32 → Option (Int32)) (hk4 : ∀ (v1 : Int32) (v2 : Int32) (v3 : Int32) (H : Heap) (locs : List Loc) (ls : Array Slot), k4 v1 v2 v3 = some r0 → Wo D A s [(oX5 a_told (.int told_gloves) (.int told_matters) (.int told_pride) (.int told_coins) (.ref a_told_house) (.ref a_told_free) (.ref a_told_stuffed) (.ref a_told_after) (.ref a_told_weight) (.ref a_told_need)), (a_told_house, .inl (cI, 6, .inl told_house)), (oX9 a_S (.ref a_S_cells) (.ref a_told) (.ref a_laws)), (a_S_cells, .inl (cI, 69, .inl S_cells))] H locs → lv_has ls 5 [(0, .ref a_S), (1, .int v1), (2, .int v2), (3, .int v3)] → W p l e rm_X9_pairMost s m args below meth c H locs 0 0 (MQ below (QcI D A r0 [(oX5 a_told (.int told_gloves) (.int told_matters) (.int told_pride) (.int told_coins) (.ref a_told_house) (.ref a_told_free) (.ref a_told_stuffed) (.ref a_told_after) (.ref a_told_weight) (.ref a_told_need)), (a_told_house, .inl (cI, 6, .inl told_house)), (oX9 a_S (.ref a_S_cells) (.ref a_told) (.ref a_laws)), (a_S_cells, .inl (cI, 69, .inl S_cells))]) args s 0 0 A) (F0 m 4 ls [])) (k20 : Int32 → Int32 → Int32 → Int32 → Option (Int32)) (hk20 : ∀ (v1 : Int32) (v2 : Int32) (v3 : Int32) (v4 : Int32) (H : Heap) (locs : List Loc) (ls : Array Slot), k20 v1 v2 v3 v4 = some r0 → Wo D A s [(oX5 a_told (.int told_gloves) (.int told_matters) (.int told_pride) (.int told_coins) (.ref a_told_house) (.ref a_told_free) (.ref a_told_stuffed) (.ref a_told_after) (.ref a_told_weight) (.ref a_told_need)), (a_told_house, .inl (cI, 6, .inl told_house)), (oX9 a_S (.ref a_S_cells) (.ref a_told) (.ref a_laws)), (a_S_cells, .inl (cI, 69, .inl S_cells))] H locs → lv_has ls 5 [(0, .ref a_S), (1, .int v1), (2, .int v2), (3, .int v3), (4, .int v4)] → W p l e rm_X9_pairMost s m args below meth c H locs 0 0 (MQ below (QcI D A r0 [(oX5 a_told (.int told_gloves) (.int told_matters) (.int told_pride) (.int told_coins) (.ref a_told_house) (.ref a_told_free) (.ref a_told_stuffed) (.ref a_told_after) (.ref a_told_weight) (.ref a_told_need)), (a_told_house, .inl (cI, 6, .inl told_house)), (oX9 a_S (.ref a_S_cells) (.ref a_told) (.ref a_laws)), (a_S_cells, .inl (cI, 69, .inl S_cells))]) args s 0 0 A) (F0 m 20 ls [])) (v1 : Int32) (v2 : Int32) (v3 : Int32) (v4 : Int32) {H : Heap} {locs : List Loc} {ls : Array Slot} (hf : b_X9_pairMost_83 told_gloves told_house S_cells k4 k20 v1 v2 v3 v4 = some r0) (hw : Wo D A s [(oX5 a_told (.int told_gloves) (.int told_matters) (.int told_pride) (.int told_coins) (.ref a_told_house) (.ref a_told_free) (.ref a_told_stuffed) (.ref a_told_after) (.ref a_told_weight) (.ref a_told_need)), (a_told_house, .inl (cI, 6, .inl told_house)), (oX9 a_S (.ref a_S_cells) (.ref a_told) (.ref a_laws)), (a_S_cells, .inl (cI, 69, .inl S_cells))] H locs) (hl : lv_has ls 5 [(0, .ref a_S), (1, .int v1), (2, .int v2), (3, .int v3), (4, .int v4)]) : W p l e rm_X9_pairMost s m args below meth c H locs 0 0 (MQ below (QcI D A r0 [(oX5 a_told (.int told_gloves) (.int told_matters) (.int told_pride) (.int told_coins) (.ref a_told_house) (.ref a_told_free) (.ref a_told_stuffed) (.ref a_told_after) (.ref a_told_weight) (.ref a_told_need)), (a_told_house, .inl (cI, 6, .inl told_house)), (oX9 a_S (.ref a_S_cells) (.ref a_told) (.ref a_laws)), (a_S_cells, .inl (cI, 69, .inl S_cells))]) args s 0 0 A) (F0 m 83 ls []) := by
  obtain ⟨hx, hb, hml, hown, hts, hr, hlk⟩ := id C
  obtain ⟨hK, hX, hA⟩ := id K
  unfold b_X9_pairMost_83 at hf
  obtain ⟨v4_1, e_v4_1, hf⟩ := bnd_some hf
  refine lv_iinc (v := v4_1) (lv' := [(4, .int v4_1), (0, .ref a_S), (1, .int v1), (2, .int v2), (3, .int v3)]) hx hb dX9_pairMost_83 hl (k := 4) rfl (by rw [e_v4_1]; rfl) (by decide) rfl (fun ls hl => ?_)
  refine lv_goto (tgt := 20) hx hb dX9_pairMost_86 (by decide) ?_
  exact hk20 v1 v2 v3 v4_1 _ _ _ hf hw (lv_sub hl [1, 2, 3, 4, 0] rfl)
set_option maxHeartbeats 4000000 in
set_option maxRecDepth 100000 in
theorem q_X9_pairMost_75 {p : Program} {l : Launch} {e : Env} {s : State} {m : MethodId} {args : Array Value} {below : List Frame} {meth : Method} {c : Code} {sx : List sx_T} {D : va_G} {cI cZ cO : ClassId} {A : Nat → Prop} (C : Cx p s m args meth c RX9 wsX9_pairMost cX9_pairMost 5 (some .int)) (K : Kx sx D (tyL cI cZ cO) A s) (a_told : Nat) (a_told_house : Nat) (a_told_free : Nat) (a_told_stuffed : Nat) (a_told_after : Nat) (a_told_weight : Nat) (a_told_need : Nat) (a_S : Nat) (a_S_cells : Nat) (a_laws : Nat) (told_gloves : Int32) (told_matters : Int32) (told_pride : Int32) (told_coins : Int32) (told_house : Nat → Int32) (S_cells : Nat → Int32) (r0 : Int32)   (k4 : Int32 → Int32 → Int32 → Option (Int32)) (hk4 : ∀ (v1 : Int32) (v2 : Int32) (v3 : Int32) (H : Heap) (locs : List Loc) (ls : Array Slot), k4 v1 v2 v3 = some r0 → Wo D A s [(oX5 a_told (.int told_gloves) (.int told_matters) (.int told_pride) (.int told_coins) (.ref a_told_house) (.ref a_told_free) (.ref a_told_stuffed) (.ref a_told_after) (.ref a_told_weight) (.ref a_told_need)), (a_told_house, .inl (cI, 6, .inl told_house)), (oX9 a_S (.ref a_S_cells) (.ref a_told) (.ref a_laws)), (a_S_cells, .inl (cI, 69, .inl S_cells))] H locs → lv_has ls 5 [(0, .ref a_S), (1, .int v1), (2, .int v2), (3, .int v3)] → W p l e rm_X9_pairMost s m args below meth c H locs 0 0 (MQ below (QcI D A r0 [(oX5 a_told (.int told_gloves) (.int told_matters) (.int told_pride) (.int told_coins) (.ref a_told_house) (.ref a_told_free) (.ref a_told_stuffed) (.ref a_told_after) (.ref a_told_weight) (.ref a_told_need)), (a_told_house, .inl (cI, 6, .inl told_house)), (oX9 a_S (.ref a_S_cells) (.ref a_told) (.ref a_laws)), (a_S_cells, .inl (cI, 69, .inl S_cells))]) args s 0 0 A) (F0 m 4 ls [])) (k20 : Int32 → Int32 → Int32 → Int32 → Option (Int32)) (hk20 : ∀ (v1 : Int32) (v2 : Int32) (v3 : Int32) (v4 : Int32) (H : Heap) (locs : List Loc) (ls : Array Slot), k20 v1 v2 v3 v4 = some r0 → Wo D A s [(oX5 a_told (.int told_gloves) (.int told_matters) (.int told_pride) (.int told_coins) (.ref a_told_house) (.ref a_told_free) (.ref a_told_stuffed) (.ref a_told_after) (.ref a_told_weight) (.ref a_told_need)), (a_told_house, .inl (cI, 6, .inl told_house)), (oX9 a_S (.ref a_S_cells) (.ref a_told) (.ref a_laws)), (a_S_cells, .inl (cI, 69, .inl S_cells))] H locs → lv_has ls 5 [(0, .ref a_S), (1, .int v1), (2, .int v2), (3, .int v3), (4, .int v4)] → W p l e rm_X9_pairMost s m args below meth c H locs 0 0 (MQ below (QcI D A r0 [(oX5 a_told (.int told_gloves) (.int told_matters) (.int told_pride) (.int told_coins) (.ref a_told_house) (.ref a_told_free) (.ref a_told_stuffed) (.ref a_told_after) (.ref a_told_weight) (.ref a_told_need)), (a_told_house, .inl (cI, 6, .inl told_house)), (oX9 a_S (.ref a_S_cells) (.ref a_told) (.ref a_laws)), (a_S_cells, .inl (cI, 69, .inl S_cells))]) args s 0 0 A) (F0 m 20 ls [])) (v1 : Int32) (v3 : Int32) (v4 : Int32) {H : Heap} {locs : List Loc} {ls : Array Slot} (hf : b_X9_pairMost_75 told_gloves told_house S_cells k4 k20 v1 v3 v4 = some r0) (hw : Wo D A s [(oX5 a_told (.int told_gloves) (.int told_matters) (.int told_pride) (.int told_coins) (.ref a_told_house) (.ref a_told_free) (.ref a_told_stuffed) (.ref a_told_after) (.ref a_told_weight) (.ref a_told_need)), (a_told_house, .inl (cI, 6, .inl told_house)), (oX9 a_S (.ref a_S_cells) (.ref a_told) (.ref a_laws)), (a_S_cells, .inl (cI, 69, .inl S_cells))] H locs) (hl : lv_has ls 5 [(0, .ref a_S), (1, .int v1), (3, .int v3), (4, .int v4)]) : W p l e rm_X9_pairMost s m args below meth c H locs 0 0 (MQ below (QcI D A r0 [(oX5 a_told (.int told_gloves) (.int told_matters) (.int told_pride) (.int told_coins) (.ref a_told_house) (.ref a_told_free) (.ref a_told_stuffed) (.ref a_told_after) (.ref a_told_weight) (.ref a_told_need)), (a_told_house, .inl (cI, 6, .inl told_house)), (oX9 a_S (.ref a_S_cells) (.ref a_told) (.ref a_laws)), (a_S_cells, .inl (cI, 69, .inl S_cells))]) args s 0 0 A) (F0 m 75 ls []) := by
  obtain ⟨hx, hb, hml, hown, hts, hr, hlk⟩ := id C
  obtain ⟨hK, hX, hA⟩ := id K
  unfold b_X9_pairMost_75 at hf
  refine lv_bipush (v := (10 : Int32)) hx hb dX9_pairMost_75 (by decide) ?_
  refine lv_iload_n hx hb dX9_pairMost_77 rfl (lv_at hl 2 rfl) ?_
  refine lv_imul hx hb dX9_pairMost_78 ?_
  refine lv_iload hx hb dX9_pairMost_79 (lv_at hl 3 rfl) ?_
  refine lv_iadd hx hb dX9_pairMost_81 ?_
  obtain ⟨v2_1, e_v2_1, hf⟩ := bnd_some hf
  refine lv_nmi e_v2_1 ?_
  refine lv_istore_n (lv' := [(2, .int v2_1), (0, .ref a_S), (1, .int v1), (3, .int v3), (4, .int v4)]) hx hb dX9_pairMost_82 rfl hl (by decide) rfl (fun ls hl => ?_)
  exact q_X9_pairMost_83 C K a_told a_told_house a_told_free a_told_stuffed a_told_after a_told_weight a_told_need a_S a_S_cells a_laws told_gloves told_matters told_pride told_coins told_house S_cells r0 k4 hk4 k20 hk20 v1 v2_1 v3 v4 hf hw (lv_sub hl [1, 2, 0, 3, 4] rfl)
set_option maxHeartbeats 4000000 in
set_option maxRecDepth 100000 in
theorem q_X9_pairMost_20 {p : Program} {l : Launch} {e : Env} {s : State} {m : MethodId} {args : Array Value} {below : List Frame} {meth : Method} {c : Code} {sx : List sx_T} {D : va_G} {cI cZ cO : ClassId} {A : Nat → Prop} (C : Cx p s m args meth c RX9 wsX9_pairMost cX9_pairMost 5 (some .int)) (K : Kx sx D (tyL cI cZ cO) A s) (a_told : Nat) (a_told_house : Nat) (a_told_free : Nat) (a_told_stuffed : Nat) (a_told_after : Nat) (a_told_weight : Nat) (a_told_need : Nat) (a_S : Nat) (a_S_cells : Nat) (a_laws : Nat) (told_gloves : Int32) (told_matters : Int32) (told_pride : Int32) (told_coins : Int32) (told_house : Nat → Int32) (S_cells : Nat → Int32) (r0 : Int32)   (k4 : Int32 → Int32 → Int32 → Option (Int32)) (hk4 : ∀ (v1 : Int32) (v2 : Int32) (v3 : Int32) (H : Heap) (locs : List Loc) (ls : Array Slot), k4 v1 v2 v3 = some r0 → Wo D A s [(oX5 a_told (.int told_gloves) (.int told_matters) (.int told_pride) (.int told_coins) (.ref a_told_house) (.ref a_told_free) (.ref a_told_stuffed) (.ref a_told_after) (.ref a_told_weight) (.ref a_told_need)), (a_told_house, .inl (cI, 6, .inl told_house)), (oX9 a_S (.ref a_S_cells) (.ref a_told) (.ref a_laws)), (a_S_cells, .inl (cI, 69, .inl S_cells))] H locs → lv_has ls 5 [(0, .ref a_S), (1, .int v1), (2, .int v2), (3, .int v3)] → W p l e rm_X9_pairMost s m args below meth c H locs 0 0 (MQ below (QcI D A r0 [(oX5 a_told (.int told_gloves) (.int told_matters) (.int told_pride) (.int told_coins) (.ref a_told_house) (.ref a_told_free) (.ref a_told_stuffed) (.ref a_told_after) (.ref a_told_weight) (.ref a_told_need)), (a_told_house, .inl (cI, 6, .inl told_house)), (oX9 a_S (.ref a_S_cells) (.ref a_told) (.ref a_laws)), (a_S_cells, .inl (cI, 69, .inl S_cells))]) args s 0 0 A) (F0 m 4 ls [])) (k20 : Int32 → Int32 → Int32 → Int32 → Option (Int32)) (hk20 : ∀ (v1 : Int32) (v2 : Int32) (v3 : Int32) (v4 : Int32) (H : Heap) (locs : List Loc) (ls : Array Slot), k20 v1 v2 v3 v4 = some r0 → Wo D A s [(oX5 a_told (.int told_gloves) (.int told_matters) (.int told_pride) (.int told_coins) (.ref a_told_house) (.ref a_told_free) (.ref a_told_stuffed) (.ref a_told_after) (.ref a_told_weight) (.ref a_told_need)), (a_told_house, .inl (cI, 6, .inl told_house)), (oX9 a_S (.ref a_S_cells) (.ref a_told) (.ref a_laws)), (a_S_cells, .inl (cI, 69, .inl S_cells))] H locs → lv_has ls 5 [(0, .ref a_S), (1, .int v1), (2, .int v2), (3, .int v3), (4, .int v4)] → W p l e rm_X9_pairMost s m args below meth c H locs 0 0 (MQ below (QcI D A r0 [(oX5 a_told (.int told_gloves) (.int told_matters) (.int told_pride) (.int told_coins) (.ref a_told_house) (.ref a_told_free) (.ref a_told_stuffed) (.ref a_told_after) (.ref a_told_weight) (.ref a_told_need)), (a_told_house, .inl (cI, 6, .inl told_house)), (oX9 a_S (.ref a_S_cells) (.ref a_told) (.ref a_laws)), (a_S_cells, .inl (cI, 69, .inl S_cells))]) args s 0 0 A) (F0 m 20 ls [])) (v1 : Int32) (v2 : Int32) (v3 : Int32) (v4 : Int32) {H : Heap} {locs : List Loc} {ls : Array Slot} (hf : b_X9_pairMost_20 told_gloves told_house S_cells k4 k20 v1 v2 v3 v4 = some r0) (hw : Wo D A s [(oX5 a_told (.int told_gloves) (.int told_matters) (.int told_pride) (.int told_coins) (.ref a_told_house) (.ref a_told_free) (.ref a_told_stuffed) (.ref a_told_after) (.ref a_told_weight) (.ref a_told_need)), (a_told_house, .inl (cI, 6, .inl told_house)), (oX9 a_S (.ref a_S_cells) (.ref a_told) (.ref a_laws)), (a_S_cells, .inl (cI, 69, .inl S_cells))] H locs) (hl : lv_has ls 5 [(0, .ref a_S), (1, .int v1), (2, .int v2), (3, .int v3), (4, .int v4)]) : W p l e rm_X9_pairMost s m args below meth c H locs 0 0 (MQ below (QcI D A r0 [(oX5 a_told (.int told_gloves) (.int told_matters) (.int told_pride) (.int told_coins) (.ref a_told_house) (.ref a_told_free) (.ref a_told_stuffed) (.ref a_told_after) (.ref a_told_weight) (.ref a_told_need)), (a_told_house, .inl (cI, 6, .inl told_house)), (oX9 a_S (.ref a_S_cells) (.ref a_told) (.ref a_laws)), (a_S_cells, .inl (cI, 69, .inl S_cells))]) args s 0 0 A) (F0 m 20 ls []) := by
  obtain ⟨hx, hb, hml, hown, hts, hr, hlk⟩ := id C
  obtain ⟨hK, hX, hA⟩ := id K
  unfold b_X9_pairMost_20 at hf
  refine lv_iload hx hb dX9_pairMost_20 (lv_at hl 4 rfl) ?_
  refine lv_aload_n hx hb dX9_pairMost_22 rfl (lv_at hl 0 rfl) ?_
  refine va_get (ci := 9) (v := .ref a_told) (C := RX9) (T := TX9) (N := 3) hx hb hts in_X9_pairMost_X9 hown hK hw.1 2 rfl rfl 1 (by decide) (hts _ lk_X9_pairMost_0) (fun _ h9 => h9) rfl dX9_pairMost_23 ?_
  refine va_get (ci := 5) (v := .int told_gloves) (C := RX5) (T := TX5) (N := 10) hx hb hts in_X9_pairMost_X5 hown hK hw.1 0 rfl rfl 0 (by decide) (hts _ lk_X9_pairMost_1) (fun _ h9 => h9) rfl dX9_pairMost_26 ?_
  refine lv_icmp_ge (tgt := 89) hx hb dX9_pairMost_29 (by decide) (fun hc => ?_) (fun hc => ?_)
  · have hf := (if_pos hc).symm.trans hf
    obtain ⟨v3_1, e_v3_1, hf⟩ := bnd_some hf
    refine lv_iinc (v := v3_1) (lv' := [(3, .int v3_1), (0, .ref a_S), (1, .int v1), (2, .int v2), (4, .int v4)]) hx hb dX9_pairMost_89 hl (k := 3) rfl (by rw [e_v3_1]; rfl) (by decide) rfl (fun ls hl => ?_)
    refine lv_goto (tgt := 4) hx hb dX9_pairMost_92 (by decide) ?_
    exact hk4 v1 v2 v3_1 _ _ _ hf hw (lv_sub hl [1, 2, 3, 0] rfl)
  · have hf := (if_neg hc).symm.trans hf
    refine lv_aload_n hx hb dX9_pairMost_32 rfl (lv_at hl 0 rfl) ?_
    refine va_get (ci := 9) (v := .ref a_told) (C := RX9) (T := TX9) (N := 3) hx hb hts in_X9_pairMost_X9 hown hK hw.1 2 rfl rfl 1 (by decide) (hts _ lk_X9_pairMost_0) (fun _ h9 => h9) rfl dX9_pairMost_33 ?_
    refine lv_iload_n hx hb dX9_pairMost_36 rfl (lv_at hl 3 rfl) ?_
    refine lv_iload hx hb dX9_pairMost_37 (lv_at hl 4 rfl) ?_
    obtain ⟨r_2, hg_3, hf⟩ := ob1_some hf
    refine cl_ViA (As := [.int v3, .int v4]) (rest := []) C K hw (k_X5_unlike a_told a_told_house a_told_free a_told_stuffed a_told_after a_told_weight a_told_need told_gloves told_matters told_pride told_coins told_house r_2 v3 v4 hg_3) [0, 1] rfl (by decide) rfl rfl (ci := 5) (j := 0) rfl rfl (cwV 2 hts gX9_pairMost_X5_unlike rfl rfl rfl (by decide +kernel) ⟨Nat.le_of_ble_eq_true rfl, Nat.le_of_ble_eq_true rfl⟩) rfl hl rfl (Nat.le_of_ble_eq_true rfl) dX9_pairMost_39 ⟨Nat.zero_le _, Nat.zero_le _⟩ (fun H locs hw => ?_)
    have hw : Wo D A s [(oX5 a_told (.int told_gloves) (.int told_matters) (.int told_pride) (.int told_coins) (.ref a_told_house) (.ref a_told_free) (.ref a_told_stuffed) (.ref a_told_after) (.ref a_told_weight) (.ref a_told_need)), (a_told_house, .inl (cI, 6, .inl told_house)), (oX9 a_S (.ref a_S_cells) (.ref a_told) (.ref a_laws)), (a_S_cells, .inl (cI, 69, .inl S_cells))] H locs := hw
    refine lv_if_eq (tgt := 83) hx hb dX9_pairMost_42 (by decide) (fun hc => ?_) (fun hc => ?_)
    · have hf := (if_pos hc).symm.trans hf
      exact q_X9_pairMost_83 C K a_told a_told_house a_told_free a_told_stuffed a_told_after a_told_weight a_told_need a_S a_S_cells a_laws told_gloves told_matters told_pride told_coins told_house S_cells r0 k4 hk4 k20 hk20 v1 v2 v3 v4 hf hw (lv_sub hl [0, 1, 2, 3, 4] rfl)
    · have hf := (if_neg hc).symm.trans hf
      refine lv_iload_n hx hb dX9_pairMost_45 rfl (lv_at hl 2 rfl) ?_
      refine lv_iconst (v := (-1 : Int32)) hx hb dX9_pairMost_46 (by decide) ?_
      refine lv_icmp_eq (tgt := 75) hx hb dX9_pairMost_47 (by decide) (fun hc => ?_) (fun hc => ?_)
      · have hf := (if_pos hc).symm.trans hf
        exact q_X9_pairMost_75 C K a_told a_told_house a_told_free a_told_stuffed a_told_after a_told_weight a_told_need a_S a_S_cells a_laws told_gloves told_matters told_pride told_coins told_house S_cells r0 k4 hk4 k20 hk20 v1 v3 v4 hf hw (lv_sub hl [0, 1, 3, 4] rfl)
      · have hf := (if_neg hc).symm.trans hf
        refine lv_iload_n hx hb dX9_pairMost_50 rfl (lv_at hl 1 rfl) ?_
        refine lv_aload_n hx hb dX9_pairMost_51 rfl (lv_at hl 0 rfl) ?_
        refine lv_iload_n hx hb dX9_pairMost_52 rfl (lv_at hl 3 rfl) ?_
        refine lv_iload hx hb dX9_pairMost_53 (lv_at hl 4 rfl) ?_
        obtain ⟨r_4, hg_5, hf⟩ := ob1_some hf
        refine cl_ViA (As := [.int v3, .int v4]) (rest := [.int v1]) C K hw (k_X9_warmthOf a_S a_S_cells a_told a_laws S_cells r_4 v3 v4 hg_5) [2, 3] rfl (by decide) rfl rfl (ci := 9) (j := 2) rfl rfl (cwV 2 hts gX9_pairMost_X9_warmthOf rfl rfl rfl (by decide +kernel) ⟨Nat.le_of_ble_eq_true rfl, Nat.le_of_ble_eq_true rfl⟩) rfl hl rfl (Nat.le_of_ble_eq_true rfl) dX9_pairMost_55 ⟨Nat.zero_le _, Nat.zero_le _⟩ (fun H locs hw => ?_)
        have hw : Wo D A s [(oX5 a_told (.int told_gloves) (.int told_matters) (.int told_pride) (.int told_coins) (.ref a_told_house) (.ref a_told_free) (.ref a_told_stuffed) (.ref a_told_after) (.ref a_told_weight) (.ref a_told_need)), (a_told_house, .inl (cI, 6, .inl told_house)), (oX9 a_S (.ref a_S_cells) (.ref a_told) (.ref a_laws)), (a_S_cells, .inl (cI, 69, .inl S_cells))] H locs := hw
        refine lv_aload_n hx hb dX9_pairMost_58 rfl (lv_at hl 0 rfl) ?_
        refine lv_iload_n hx hb dX9_pairMost_59 rfl (lv_at hl 2 rfl) ?_
        refine lv_bipush (v := (10 : Int32)) hx hb dX9_pairMost_60 (by decide) ?_
        refine lv_idiv hx hb dX9_pairMost_62 (by decide) ?_
        refine lv_iload_n hx hb dX9_pairMost_63 rfl (lv_at hl 2 rfl) ?_
        refine lv_bipush (v := (10 : Int32)) hx hb dX9_pairMost_64 (by decide) ?_
        refine lv_irem hx hb dX9_pairMost_66 (by decide) ?_
        obtain ⟨n_6, e_n_6, hf⟩ := bnd_some hf
        refine lv_nmi e_n_6 ?_
        obtain ⟨r_7, hg_8, hf⟩ := ob1_some hf
        refine cl_ViA (As := [.int (v2 / (10 : Int32)), .int n_6]) (rest := [.int r_4, .int v1]) C K hw (k_X9_warmthOf a_S a_S_cells a_told a_laws S_cells r_7 (v2 / (10 : Int32)) n_6 hg_8) [2, 3] rfl (by decide) rfl rfl (ci := 9) (j := 2) rfl rfl (cwV 2 hts gX9_pairMost_X9_warmthOf rfl rfl rfl (by decide +kernel) ⟨Nat.le_of_ble_eq_true rfl, Nat.le_of_ble_eq_true rfl⟩) rfl hl rfl (Nat.le_of_ble_eq_true rfl) dX9_pairMost_67 ⟨Nat.zero_le _, Nat.zero_le _⟩ (fun H locs hw => ?_)
        have hw : Wo D A s [(oX5 a_told (.int told_gloves) (.int told_matters) (.int told_pride) (.int told_coins) (.ref a_told_house) (.ref a_told_free) (.ref a_told_stuffed) (.ref a_told_after) (.ref a_told_weight) (.ref a_told_need)), (a_told_house, .inl (cI, 6, .inl told_house)), (oX9 a_S (.ref a_S_cells) (.ref a_told) (.ref a_laws)), (a_S_cells, .inl (cI, 69, .inl S_cells))] H locs := hw
        refine lv_isub hx hb dX9_pairMost_70 ?_
        refine lv_imul hx hb dX9_pairMost_71 ?_
        refine lv_if_le (tgt := 83) hx hb dX9_pairMost_72 (by decide) (fun hc => ?_) (fun hc => ?_)
        · have hf := (if_pos hc).symm.trans hf
          exact q_X9_pairMost_83 C K a_told a_told_house a_told_free a_told_stuffed a_told_after a_told_weight a_told_need a_S a_S_cells a_laws told_gloves told_matters told_pride told_coins told_house S_cells r0 k4 hk4 k20 hk20 v1 v2 v3 v4 hf hw (lv_sub hl [0, 1, 2, 3, 4] rfl)
        · have hf := (if_neg hc).symm.trans hf
          exact q_X9_pairMost_75 C K a_told a_told_house a_told_free a_told_stuffed a_told_after a_told_weight a_told_need a_S a_S_cells a_laws told_gloves told_matters told_pride told_coins told_house S_cells r0 k4 hk4 k20 hk20 v1 v3 v4 hf hw (lv_sub hl [0, 1, 3, 4] rfl)
theorem qf_X9_pairMost_20 {p : Program} {l : Launch} {e : Env} {s : State} {m : MethodId} {args : Array Value} {below : List Frame} {meth : Method} {c : Code} {sx : List sx_T} {D : va_G} {cI cZ cO : ClassId} {A : Nat → Prop} (C : Cx p s m args meth c RX9 wsX9_pairMost cX9_pairMost 5 (some .int)) (K : Kx sx D (tyL cI cZ cO) A s) (a_told : Nat) (a_told_house : Nat) (a_told_free : Nat) (a_told_stuffed : Nat) (a_told_after : Nat) (a_told_weight : Nat) (a_told_need : Nat) (a_S : Nat) (a_S_cells : Nat) (a_laws : Nat) (told_gloves : Int32) (told_matters : Int32) (told_pride : Int32) (told_coins : Int32) (told_house : Nat → Int32) (S_cells : Nat → Int32) (r0 : Int32)   (k4 : Int32 → Int32 → Int32 → Option (Int32)) (hk4 : ∀ (v1 : Int32) (v2 : Int32) (v3 : Int32) (H : Heap) (locs : List Loc) (ls : Array Slot), k4 v1 v2 v3 = some r0 → Wo D A s [(oX5 a_told (.int told_gloves) (.int told_matters) (.int told_pride) (.int told_coins) (.ref a_told_house) (.ref a_told_free) (.ref a_told_stuffed) (.ref a_told_after) (.ref a_told_weight) (.ref a_told_need)), (a_told_house, .inl (cI, 6, .inl told_house)), (oX9 a_S (.ref a_S_cells) (.ref a_told) (.ref a_laws)), (a_S_cells, .inl (cI, 69, .inl S_cells))] H locs → lv_has ls 5 [(0, .ref a_S), (1, .int v1), (2, .int v2), (3, .int v3)] → W p l e rm_X9_pairMost s m args below meth c H locs 0 0 (MQ below (QcI D A r0 [(oX5 a_told (.int told_gloves) (.int told_matters) (.int told_pride) (.int told_coins) (.ref a_told_house) (.ref a_told_free) (.ref a_told_stuffed) (.ref a_told_after) (.ref a_told_weight) (.ref a_told_need)), (a_told_house, .inl (cI, 6, .inl told_house)), (oX9 a_S (.ref a_S_cells) (.ref a_told) (.ref a_laws)), (a_S_cells, .inl (cI, 69, .inl S_cells))]) args s 0 0 A) (F0 m 4 ls [])) (n : Nat) : ∀ (v1 : Int32) (v2 : Int32) (v3 : Int32) (v4 : Int32) (H : Heap) (locs : List Loc) (ls : Array Slot), f_X9_pairMost_20 told_gloves told_house S_cells k4 n v1 v2 v3 v4 = some r0 → Wo D A s [(oX5 a_told (.int told_gloves) (.int told_matters) (.int told_pride) (.int told_coins) (.ref a_told_house) (.ref a_told_free) (.ref a_told_stuffed) (.ref a_told_after) (.ref a_told_weight) (.ref a_told_need)), (a_told_house, .inl (cI, 6, .inl told_house)), (oX9 a_S (.ref a_S_cells) (.ref a_told) (.ref a_laws)), (a_S_cells, .inl (cI, 69, .inl S_cells))] H locs → lv_has ls 5 [(0, .ref a_S), (1, .int v1), (2, .int v2), (3, .int v3), (4, .int v4)] → W p l e rm_X9_pairMost s m args below meth c H locs 0 0 (MQ below (QcI D A r0 [(oX5 a_told (.int told_gloves) (.int told_matters) (.int told_pride) (.int told_coins) (.ref a_told_house) (.ref a_told_free) (.ref a_told_stuffed) (.ref a_told_after) (.ref a_told_weight) (.ref a_told_need)), (a_told_house, .inl (cI, 6, .inl told_house)), (oX9 a_S (.ref a_S_cells) (.ref a_told) (.ref a_laws)), (a_S_cells, .inl (cI, 69, .inl S_cells))]) args s 0 0 A) (F0 m 20 ls []) := by
  induction n with
  | zero =>
    intro v1 v2 v3 v4 H locs ls hf
    have h9 : (none : Option (Int32)) = some r0 := hf
    cases h9
  | succ n ih =>
    intro v1 v2 v3 v4 H locs ls hf hw hl
    exact q_X9_pairMost_20 C K a_told a_told_house a_told_free a_told_stuffed a_told_after a_told_weight a_told_need a_S a_S_cells a_laws told_gloves told_matters told_pride told_coins told_house S_cells r0 k4 hk4 (f_X9_pairMost_20 told_gloves told_house S_cells k4 n) ih v1 v2 v3 v4 hf hw hl
set_option maxHeartbeats 4000000 in
set_option maxRecDepth 100000 in
theorem q_X9_pairMost_4 {p : Program} {l : Launch} {e : Env} {s : State} {m : MethodId} {args : Array Value} {below : List Frame} {meth : Method} {c : Code} {sx : List sx_T} {D : va_G} {cI cZ cO : ClassId} {A : Nat → Prop} (C : Cx p s m args meth c RX9 wsX9_pairMost cX9_pairMost 5 (some .int)) (K : Kx sx D (tyL cI cZ cO) A s) (a_told : Nat) (a_told_house : Nat) (a_told_free : Nat) (a_told_stuffed : Nat) (a_told_after : Nat) (a_told_weight : Nat) (a_told_need : Nat) (a_S : Nat) (a_S_cells : Nat) (a_laws : Nat) (told_gloves : Int32) (told_matters : Int32) (told_pride : Int32) (told_coins : Int32) (told_house : Nat → Int32) (S_cells : Nat → Int32) (r0 : Int32)   (k4 : Int32 → Int32 → Int32 → Option (Int32)) (hk4 : ∀ (v1 : Int32) (v2 : Int32) (v3 : Int32) (H : Heap) (locs : List Loc) (ls : Array Slot), k4 v1 v2 v3 = some r0 → Wo D A s [(oX5 a_told (.int told_gloves) (.int told_matters) (.int told_pride) (.int told_coins) (.ref a_told_house) (.ref a_told_free) (.ref a_told_stuffed) (.ref a_told_after) (.ref a_told_weight) (.ref a_told_need)), (a_told_house, .inl (cI, 6, .inl told_house)), (oX9 a_S (.ref a_S_cells) (.ref a_told) (.ref a_laws)), (a_S_cells, .inl (cI, 69, .inl S_cells))] H locs → lv_has ls 5 [(0, .ref a_S), (1, .int v1), (2, .int v2), (3, .int v3)] → W p l e rm_X9_pairMost s m args below meth c H locs 0 0 (MQ below (QcI D A r0 [(oX5 a_told (.int told_gloves) (.int told_matters) (.int told_pride) (.int told_coins) (.ref a_told_house) (.ref a_told_free) (.ref a_told_stuffed) (.ref a_told_after) (.ref a_told_weight) (.ref a_told_need)), (a_told_house, .inl (cI, 6, .inl told_house)), (oX9 a_S (.ref a_S_cells) (.ref a_told) (.ref a_laws)), (a_S_cells, .inl (cI, 69, .inl S_cells))]) args s 0 0 A) (F0 m 4 ls [])) (v1 : Int32) (v2 : Int32) (v3 : Int32) {H : Heap} {locs : List Loc} {ls : Array Slot} (hf : b_X9_pairMost_4 told_gloves told_house S_cells k4 v1 v2 v3 = some r0) (hw : Wo D A s [(oX5 a_told (.int told_gloves) (.int told_matters) (.int told_pride) (.int told_coins) (.ref a_told_house) (.ref a_told_free) (.ref a_told_stuffed) (.ref a_told_after) (.ref a_told_weight) (.ref a_told_need)), (a_told_house, .inl (cI, 6, .inl told_house)), (oX9 a_S (.ref a_S_cells) (.ref a_told) (.ref a_laws)), (a_S_cells, .inl (cI, 69, .inl S_cells))] H locs) (hl : lv_has ls 5 [(0, .ref a_S), (1, .int v1), (2, .int v2), (3, .int v3)]) : W p l e rm_X9_pairMost s m args below meth c H locs 0 0 (MQ below (QcI D A r0 [(oX5 a_told (.int told_gloves) (.int told_matters) (.int told_pride) (.int told_coins) (.ref a_told_house) (.ref a_told_free) (.ref a_told_stuffed) (.ref a_told_after) (.ref a_told_weight) (.ref a_told_need)), (a_told_house, .inl (cI, 6, .inl told_house)), (oX9 a_S (.ref a_S_cells) (.ref a_told) (.ref a_laws)), (a_S_cells, .inl (cI, 69, .inl S_cells))]) args s 0 0 A) (F0 m 4 ls []) := by
  obtain ⟨hx, hb, hml, hown, hts, hr, hlk⟩ := id C
  obtain ⟨hK, hX, hA⟩ := id K
  unfold b_X9_pairMost_4 at hf
  refine lv_iload_n hx hb dX9_pairMost_4 rfl (lv_at hl 3 rfl) ?_
  refine lv_aload_n hx hb dX9_pairMost_5 rfl (lv_at hl 0 rfl) ?_
  refine va_get (ci := 9) (v := .ref a_told) (C := RX9) (T := TX9) (N := 3) hx hb hts in_X9_pairMost_X9 hown hK hw.1 2 rfl rfl 1 (by decide) (hts _ lk_X9_pairMost_0) (fun _ h9 => h9) rfl dX9_pairMost_6 ?_
  refine va_get (ci := 5) (v := .int told_gloves) (C := RX5) (T := TX5) (N := 10) hx hb hts in_X9_pairMost_X5 hown hK hw.1 0 rfl rfl 0 (by decide) (hts _ lk_X9_pairMost_1) (fun _ h9 => h9) rfl dX9_pairMost_9 ?_
  refine lv_icmp_ge (tgt := 95) hx hb dX9_pairMost_12 (by decide) (fun hc => ?_) (fun hc => ?_)
  · have hf := (if_pos hc).symm.trans hf
    refine lv_iload_n hx hb dX9_pairMost_95 rfl (lv_at hl 2 rfl) ?_
    clear hk4; cases hf
    exact retI C hw dX9_pairMost_96 rfl
  · have hf := (if_neg hc).symm.trans hf
    refine lv_iload_n hx hb dX9_pairMost_15 rfl (lv_at hl 3 rfl) ?_
    refine lv_iconst (v := (1 : Int32)) hx hb dX9_pairMost_16 (by decide) ?_
    refine lv_iadd hx hb dX9_pairMost_17 ?_
    obtain ⟨v4_1, e_v4_1, hf⟩ := bnd_some hf
    refine lv_nmi e_v4_1 ?_
    refine lv_istore (lv' := [(4, .int v4_1), (0, .ref a_S), (1, .int v1), (2, .int v2), (3, .int v3)]) hx hb dX9_pairMost_18 hl (by decide) rfl (fun ls hl => ?_)
    exact qf_X9_pairMost_20 C K a_told a_told_house a_told_free a_told_stuffed a_told_after a_told_weight a_told_need a_S a_S_cells a_laws told_gloves told_matters told_pride told_coins told_house S_cells r0 k4 hk4 fu v1 v2 v3 v4_1 _ _ _ hf hw (lv_sub hl [1, 2, 3, 4, 0] rfl)
theorem qf_X9_pairMost_4 {p : Program} {l : Launch} {e : Env} {s : State} {m : MethodId} {args : Array Value} {below : List Frame} {meth : Method} {c : Code} {sx : List sx_T} {D : va_G} {cI cZ cO : ClassId} {A : Nat → Prop} (C : Cx p s m args meth c RX9 wsX9_pairMost cX9_pairMost 5 (some .int)) (K : Kx sx D (tyL cI cZ cO) A s) (a_told : Nat) (a_told_house : Nat) (a_told_free : Nat) (a_told_stuffed : Nat) (a_told_after : Nat) (a_told_weight : Nat) (a_told_need : Nat) (a_S : Nat) (a_S_cells : Nat) (a_laws : Nat) (told_gloves : Int32) (told_matters : Int32) (told_pride : Int32) (told_coins : Int32) (told_house : Nat → Int32) (S_cells : Nat → Int32) (r0 : Int32)    (n : Nat) : ∀ (v1 : Int32) (v2 : Int32) (v3 : Int32) (H : Heap) (locs : List Loc) (ls : Array Slot), f_X9_pairMost_4 told_gloves told_house S_cells  n v1 v2 v3 = some r0 → Wo D A s [(oX5 a_told (.int told_gloves) (.int told_matters) (.int told_pride) (.int told_coins) (.ref a_told_house) (.ref a_told_free) (.ref a_told_stuffed) (.ref a_told_after) (.ref a_told_weight) (.ref a_told_need)), (a_told_house, .inl (cI, 6, .inl told_house)), (oX9 a_S (.ref a_S_cells) (.ref a_told) (.ref a_laws)), (a_S_cells, .inl (cI, 69, .inl S_cells))] H locs → lv_has ls 5 [(0, .ref a_S), (1, .int v1), (2, .int v2), (3, .int v3)] → W p l e rm_X9_pairMost s m args below meth c H locs 0 0 (MQ below (QcI D A r0 [(oX5 a_told (.int told_gloves) (.int told_matters) (.int told_pride) (.int told_coins) (.ref a_told_house) (.ref a_told_free) (.ref a_told_stuffed) (.ref a_told_after) (.ref a_told_weight) (.ref a_told_need)), (a_told_house, .inl (cI, 6, .inl told_house)), (oX9 a_S (.ref a_S_cells) (.ref a_told) (.ref a_laws)), (a_S_cells, .inl (cI, 69, .inl S_cells))]) args s 0 0 A) (F0 m 4 ls []) := by
  induction n with
  | zero =>
    intro v1 v2 v3 H locs ls hf
    have h9 : (none : Option (Int32)) = some r0 := hf
    cases h9
  | succ n ih =>
    intro v1 v2 v3 H locs ls hf hw hl
    exact q_X9_pairMost_4 C K a_told a_told_house a_told_free a_told_stuffed a_told_after a_told_weight a_told_need a_S a_S_cells a_laws told_gloves told_matters told_pride told_coins told_house S_cells r0  (f_X9_pairMost_4 told_gloves told_house S_cells  n) ih v1 v2 v3 hf hw hl
set_option maxHeartbeats 4000000 in
set_option maxRecDepth 100000 in
theorem q_X9_pairMost_0 {p : Program} {l : Launch} {e : Env} {s : State} {m : MethodId} {args : Array Value} {below : List Frame} {meth : Method} {c : Code} {sx : List sx_T} {D : va_G} {cI cZ cO : ClassId} {A : Nat → Prop} (C : Cx p s m args meth c RX9 wsX9_pairMost cX9_pairMost 5 (some .int)) (K : Kx sx D (tyL cI cZ cO) A s) (a_told : Nat) (a_told_house : Nat) (a_told_free : Nat) (a_told_stuffed : Nat) (a_told_after : Nat) (a_told_weight : Nat) (a_told_need : Nat) (a_S : Nat) (a_S_cells : Nat) (a_laws : Nat) (told_gloves : Int32) (told_matters : Int32) (told_pride : Int32) (told_coins : Int32) (told_house : Nat → Int32) (S_cells : Nat → Int32) (r0 : Int32)    (v1 : Int32) {H : Heap} {locs : List Loc} {ls : Array Slot} (hf : b_X9_pairMost_0 told_gloves told_house S_cells  v1 = some r0) (hw : Wo D A s [(oX5 a_told (.int told_gloves) (.int told_matters) (.int told_pride) (.int told_coins) (.ref a_told_house) (.ref a_told_free) (.ref a_told_stuffed) (.ref a_told_after) (.ref a_told_weight) (.ref a_told_need)), (a_told_house, .inl (cI, 6, .inl told_house)), (oX9 a_S (.ref a_S_cells) (.ref a_told) (.ref a_laws)), (a_S_cells, .inl (cI, 69, .inl S_cells))] H locs) (hl : lv_has ls 5 [(0, .ref a_S), (1, .int v1)]) : W p l e rm_X9_pairMost s m args below meth c H locs 0 0 (MQ below (QcI D A r0 [(oX5 a_told (.int told_gloves) (.int told_matters) (.int told_pride) (.int told_coins) (.ref a_told_house) (.ref a_told_free) (.ref a_told_stuffed) (.ref a_told_after) (.ref a_told_weight) (.ref a_told_need)), (a_told_house, .inl (cI, 6, .inl told_house)), (oX9 a_S (.ref a_S_cells) (.ref a_told) (.ref a_laws)), (a_S_cells, .inl (cI, 69, .inl S_cells))]) args s 0 0 A) (F0 m 0 ls []) := by
  obtain ⟨hx, hb, hml, hown, hts, hr, hlk⟩ := id C
  obtain ⟨hK, hX, hA⟩ := id K
  unfold b_X9_pairMost_0 at hf
  refine lv_iconst (v := (-1 : Int32)) hx hb dX9_pairMost_0 (by decide) ?_
  refine lv_istore_n (lv' := [(2, .int (-1 : Int32)), (0, .ref a_S), (1, .int v1)]) hx hb dX9_pairMost_1 rfl hl (by decide) rfl (fun ls hl => ?_)
  refine lv_iconst (v := (0 : Int32)) hx hb dX9_pairMost_2 (by decide) ?_
  refine lv_istore_n (lv' := [(3, .int (0 : Int32)), (2, .int (-1 : Int32)), (0, .ref a_S), (1, .int v1)]) hx hb dX9_pairMost_3 rfl hl (by decide) rfl (fun ls hl => ?_)
  exact qf_X9_pairMost_4 C K a_told a_told_house a_told_free a_told_stuffed a_told_after a_told_weight a_told_need a_S a_S_cells a_laws told_gloves told_matters told_pride told_coins told_house S_cells r0  fu v1 (-1 : Int32) (0 : Int32) _ _ _ hf hw (lv_sub hl [2, 3, 1, 0] rfl)
set_option maxHeartbeats 4000000 in
set_option maxRecDepth 100000 in
theorem k_X9_pairMost {l : Launch} {sx : List sx_T} {D : va_G} {cI cZ cO : ClassId} (a_told : Nat) (a_told_house : Nat) (a_told_free : Nat) (a_told_stuffed : Nat) (a_told_after : Nat) (a_told_weight : Nat) (a_told_need : Nat) (a_S : Nat) (a_S_cells : Nat) (a_laws : Nat) (told_gloves : Int32) (told_matters : Int32) (told_pride : Int32) (told_coins : Int32) (told_house : Nat → Int32) (S_cells : Nat → Int32) (r0 : Int32) (p1 : Int32) (hF : f_X9_pairMost told_gloves told_house S_cells p1 = some r0) : CtI l yX9_pairMost wsX9_pairMost rm_X9_pairMost sx D (tyL cI cZ cO) [.ref a_S, .int p1] [(oX5 a_told (.int told_gloves) (.int told_matters) (.int told_pride) (.int told_coins) (.ref a_told_house) (.ref a_told_free) (.ref a_told_stuffed) (.ref a_told_after) (.ref a_told_weight) (.ref a_told_need)), (a_told_house, .inl (cI, 6, .inl told_house)), (oX9 a_S (.ref a_S_cells) (.ref a_told) (.ref a_laws)), (a_S_cells, .inl (cI, 69, .inl S_cells))] r0 [(oX5 a_told (.int told_gloves) (.int told_matters) (.int told_pride) (.int told_coins) (.ref a_told_house) (.ref a_told_free) (.ref a_told_stuffed) (.ref a_told_after) (.ref a_told_weight) (.ref a_told_need)), (a_told_house, .inl (cI, 6, .inl told_house)), (oX9 a_S (.ref a_S_cells) (.ref a_told) (.ref a_laws)), (a_S_cells, .inl (cI, 69, .inl S_cells))] := by
  refine ctI_of (cc := cX9_pairMost) (ret := (some .int)) (maxL := 5) (by decide) rfl (Nat.le_of_ble_eq_true rfl) ?_
  intro p e s m below meth c A ls C K hw hl
  exact q_X9_pairMost_0 C K a_told a_told_house a_told_free a_told_stuffed a_told_after a_told_weight a_told_need a_S a_S_cells a_laws told_gloves told_matters told_pride told_coins told_house S_cells r0 p1 hF hw (lv_sub hl [0, 1] rfl)
abbrev rm_X9_warmestPair : Room := { frames := 3, cells := 0, slots := 0, locals := 67 }
set_option maxHeartbeats 4000000 in
set_option maxRecDepth 100000 in
theorem q_X9_warmestPair_0 {p : Program} {l : Launch} {e : Env} {s : State} {m : MethodId} {args : Array Value} {below : List Frame} {meth : Method} {c : Code} {sx : List sx_T} {D : va_G} {cI cZ cO : ClassId} {A : Nat → Prop} (C : Cx p s m args meth c RX9 wsX9_warmestPair cX9_warmestPair 1 (some .int)) (K : Kx sx D (tyL cI cZ cO) A s) (a_told : Nat) (a_told_house : Nat) (a_told_free : Nat) (a_told_stuffed : Nat) (a_told_after : Nat) (a_told_weight : Nat) (a_told_need : Nat) (a_S : Nat) (a_S_cells : Nat) (a_laws : Nat) (told_gloves : Int32) (told_matters : Int32) (told_pride : Int32) (told_coins : Int32) (told_house : Nat → Int32) (S_cells : Nat → Int32) (r0 : Int32)     {H : Heap} {locs : List Loc} {ls : Array Slot} (hf : b_X9_warmestPair_0 told_gloves told_house S_cells   = some r0) (hw : Wo D A s [(oX5 a_told (.int told_gloves) (.int told_matters) (.int told_pride) (.int told_coins) (.ref a_told_house) (.ref a_told_free) (.ref a_told_stuffed) (.ref a_told_after) (.ref a_told_weight) (.ref a_told_need)), (a_told_house, .inl (cI, 6, .inl told_house)), (oX9 a_S (.ref a_S_cells) (.ref a_told) (.ref a_laws)), (a_S_cells, .inl (cI, 69, .inl S_cells))] H locs) (hl : lv_has ls 1 [(0, .ref a_S)]) : W p l e rm_X9_warmestPair s m args below meth c H locs 0 0 (MQ below (QcI D A r0 [(oX5 a_told (.int told_gloves) (.int told_matters) (.int told_pride) (.int told_coins) (.ref a_told_house) (.ref a_told_free) (.ref a_told_stuffed) (.ref a_told_after) (.ref a_told_weight) (.ref a_told_need)), (a_told_house, .inl (cI, 6, .inl told_house)), (oX9 a_S (.ref a_S_cells) (.ref a_told) (.ref a_laws)), (a_S_cells, .inl (cI, 69, .inl S_cells))]) args s 0 0 A) (F0 m 0 ls []) := by
  obtain ⟨hx, hb, hml, hown, hts, hr, hlk⟩ := id C
  obtain ⟨hK, hX, hA⟩ := id K
  unfold b_X9_warmestPair_0 at hf
  refine lv_aload_n hx hb dX9_warmestPair_0 rfl (lv_at hl 0 rfl) ?_
  refine lv_iconst (v := (1 : Int32)) hx hb dX9_warmestPair_1 (by decide) ?_
  obtain ⟨r_1, hg_2, hf⟩ := ob1_some hf
  refine cl_ViA (As := [.int (1 : Int32)]) (rest := []) C K hw (k_X9_pairMost a_told a_told_house a_told_free a_told_stuffed a_told_after a_told_weight a_told_need a_S a_S_cells a_laws told_gloves told_matters told_pride told_coins told_house S_cells r_1 (1 : Int32) hg_2) [0, 1, 2, 3] rfl (by decide) rfl rfl (ci := 9) (j := 2) rfl rfl (cwV 1 hts gX9_warmestPair_X9_pairMost rfl rfl rfl (by decide +kernel) ⟨Nat.le_of_ble_eq_true rfl, Nat.le_of_ble_eq_true rfl⟩) rfl hl rfl (Nat.le_of_ble_eq_true rfl) dX9_warmestPair_2 ⟨Nat.zero_le _, Nat.zero_le _⟩ (fun H locs hw => ?_)
  have hw : Wo D A s [(oX5 a_told (.int told_gloves) (.int told_matters) (.int told_pride) (.int told_coins) (.ref a_told_house) (.ref a_told_free) (.ref a_told_stuffed) (.ref a_told_after) (.ref a_told_weight) (.ref a_told_need)), (a_told_house, .inl (cI, 6, .inl told_house)), (oX9 a_S (.ref a_S_cells) (.ref a_told) (.ref a_laws)), (a_S_cells, .inl (cI, 69, .inl S_cells))] H locs := hw
  cases hf
  exact retI C hw dX9_warmestPair_5 rfl
set_option maxHeartbeats 4000000 in
set_option maxRecDepth 100000 in
theorem k_X9_warmestPair {l : Launch} {sx : List sx_T} {D : va_G} {cI cZ cO : ClassId} (a_told : Nat) (a_told_house : Nat) (a_told_free : Nat) (a_told_stuffed : Nat) (a_told_after : Nat) (a_told_weight : Nat) (a_told_need : Nat) (a_S : Nat) (a_S_cells : Nat) (a_laws : Nat) (told_gloves : Int32) (told_matters : Int32) (told_pride : Int32) (told_coins : Int32) (told_house : Nat → Int32) (S_cells : Nat → Int32) (r0 : Int32) (hF : f_X9_warmestPair told_gloves told_house S_cells = some r0) : CtI l yX9_warmestPair wsX9_warmestPair rm_X9_warmestPair sx D (tyL cI cZ cO) [.ref a_S] [(oX5 a_told (.int told_gloves) (.int told_matters) (.int told_pride) (.int told_coins) (.ref a_told_house) (.ref a_told_free) (.ref a_told_stuffed) (.ref a_told_after) (.ref a_told_weight) (.ref a_told_need)), (a_told_house, .inl (cI, 6, .inl told_house)), (oX9 a_S (.ref a_S_cells) (.ref a_told) (.ref a_laws)), (a_S_cells, .inl (cI, 69, .inl S_cells))] r0 [(oX5 a_told (.int told_gloves) (.int told_matters) (.int told_pride) (.int told_coins) (.ref a_told_house) (.ref a_told_free) (.ref a_told_stuffed) (.ref a_told_after) (.ref a_told_weight) (.ref a_told_need)), (a_told_house, .inl (cI, 6, .inl told_house)), (oX9 a_S (.ref a_S_cells) (.ref a_told) (.ref a_laws)), (a_S_cells, .inl (cI, 69, .inl S_cells))] := by
  refine ctI_of (cc := cX9_warmestPair) (ret := (some .int)) (maxL := 1) (by decide) rfl (Nat.le_of_ble_eq_true rfl) ?_
  intro p e s m below meth c A ls C K hw hl
  exact q_X9_warmestPair_0 C K a_told a_told_house a_told_free a_told_stuffed a_told_after a_told_weight a_told_need a_S a_S_cells a_laws told_gloves told_matters told_pride told_coins told_house S_cells r0  hF hw (lv_sub hl [0] rfl)
abbrev rm_X9_coldestPair : Room := { frames := 3, cells := 0, slots := 0, locals := 67 }
set_option maxHeartbeats 4000000 in
set_option maxRecDepth 100000 in
theorem q_X9_coldestPair_0 {p : Program} {l : Launch} {e : Env} {s : State} {m : MethodId} {args : Array Value} {below : List Frame} {meth : Method} {c : Code} {sx : List sx_T} {D : va_G} {cI cZ cO : ClassId} {A : Nat → Prop} (C : Cx p s m args meth c RX9 wsX9_coldestPair cX9_coldestPair 1 (some .int)) (K : Kx sx D (tyL cI cZ cO) A s) (a_told : Nat) (a_told_house : Nat) (a_told_free : Nat) (a_told_stuffed : Nat) (a_told_after : Nat) (a_told_weight : Nat) (a_told_need : Nat) (a_S : Nat) (a_S_cells : Nat) (a_laws : Nat) (told_gloves : Int32) (told_matters : Int32) (told_pride : Int32) (told_coins : Int32) (told_house : Nat → Int32) (S_cells : Nat → Int32) (r0 : Int32)     {H : Heap} {locs : List Loc} {ls : Array Slot} (hf : b_X9_coldestPair_0 told_gloves told_house S_cells   = some r0) (hw : Wo D A s [(oX5 a_told (.int told_gloves) (.int told_matters) (.int told_pride) (.int told_coins) (.ref a_told_house) (.ref a_told_free) (.ref a_told_stuffed) (.ref a_told_after) (.ref a_told_weight) (.ref a_told_need)), (a_told_house, .inl (cI, 6, .inl told_house)), (oX9 a_S (.ref a_S_cells) (.ref a_told) (.ref a_laws)), (a_S_cells, .inl (cI, 69, .inl S_cells))] H locs) (hl : lv_has ls 1 [(0, .ref a_S)]) : W p l e rm_X9_coldestPair s m args below meth c H locs 0 0 (MQ below (QcI D A r0 [(oX5 a_told (.int told_gloves) (.int told_matters) (.int told_pride) (.int told_coins) (.ref a_told_house) (.ref a_told_free) (.ref a_told_stuffed) (.ref a_told_after) (.ref a_told_weight) (.ref a_told_need)), (a_told_house, .inl (cI, 6, .inl told_house)), (oX9 a_S (.ref a_S_cells) (.ref a_told) (.ref a_laws)), (a_S_cells, .inl (cI, 69, .inl S_cells))]) args s 0 0 A) (F0 m 0 ls []) := by
  obtain ⟨hx, hb, hml, hown, hts, hr, hlk⟩ := id C
  obtain ⟨hK, hX, hA⟩ := id K
  unfold b_X9_coldestPair_0 at hf
  refine lv_aload_n hx hb dX9_coldestPair_0 rfl (lv_at hl 0 rfl) ?_
  refine lv_iconst (v := (-1 : Int32)) hx hb dX9_coldestPair_1 (by decide) ?_
  obtain ⟨r_1, hg_2, hf⟩ := ob1_some hf
  refine cl_ViA (As := [.int (-1 : Int32)]) (rest := []) C K hw (k_X9_pairMost a_told a_told_house a_told_free a_told_stuffed a_told_after a_told_weight a_told_need a_S a_S_cells a_laws told_gloves told_matters told_pride told_coins told_house S_cells r_1 (-1 : Int32) hg_2) [0, 1, 2, 3] rfl (by decide) rfl rfl (ci := 9) (j := 2) rfl rfl (cwV 1 hts gX9_coldestPair_X9_pairMost rfl rfl rfl (by decide +kernel) ⟨Nat.le_of_ble_eq_true rfl, Nat.le_of_ble_eq_true rfl⟩) rfl hl rfl (Nat.le_of_ble_eq_true rfl) dX9_coldestPair_2 ⟨Nat.zero_le _, Nat.zero_le _⟩ (fun H locs hw => ?_)
  have hw : Wo D A s [(oX5 a_told (.int told_gloves) (.int told_matters) (.int told_pride) (.int told_coins) (.ref a_told_house) (.ref a_told_free) (.ref a_told_stuffed) (.ref a_told_after) (.ref a_told_weight) (.ref a_told_need)), (a_told_house, .inl (cI, 6, .inl told_house)), (oX9 a_S (.ref a_S_cells) (.ref a_told) (.ref a_laws)), (a_S_cells, .inl (cI, 69, .inl S_cells))] H locs := hw
  cases hf
  exact retI C hw dX9_coldestPair_5 rfl
set_option maxHeartbeats 4000000 in
set_option maxRecDepth 100000 in
theorem k_X9_coldestPair {l : Launch} {sx : List sx_T} {D : va_G} {cI cZ cO : ClassId} (a_told : Nat) (a_told_house : Nat) (a_told_free : Nat) (a_told_stuffed : Nat) (a_told_after : Nat) (a_told_weight : Nat) (a_told_need : Nat) (a_S : Nat) (a_S_cells : Nat) (a_laws : Nat) (told_gloves : Int32) (told_matters : Int32) (told_pride : Int32) (told_coins : Int32) (told_house : Nat → Int32) (S_cells : Nat → Int32) (r0 : Int32) (hF : f_X9_coldestPair told_gloves told_house S_cells = some r0) : CtI l yX9_coldestPair wsX9_coldestPair rm_X9_coldestPair sx D (tyL cI cZ cO) [.ref a_S] [(oX5 a_told (.int told_gloves) (.int told_matters) (.int told_pride) (.int told_coins) (.ref a_told_house) (.ref a_told_free) (.ref a_told_stuffed) (.ref a_told_after) (.ref a_told_weight) (.ref a_told_need)), (a_told_house, .inl (cI, 6, .inl told_house)), (oX9 a_S (.ref a_S_cells) (.ref a_told) (.ref a_laws)), (a_S_cells, .inl (cI, 69, .inl S_cells))] r0 [(oX5 a_told (.int told_gloves) (.int told_matters) (.int told_pride) (.int told_coins) (.ref a_told_house) (.ref a_told_free) (.ref a_told_stuffed) (.ref a_told_after) (.ref a_told_weight) (.ref a_told_need)), (a_told_house, .inl (cI, 6, .inl told_house)), (oX9 a_S (.ref a_S_cells) (.ref a_told) (.ref a_laws)), (a_S_cells, .inl (cI, 69, .inl S_cells))] := by
  refine ctI_of (cc := cX9_coldestPair) (ret := (some .int)) (maxL := 1) (by decide) rfl (Nat.le_of_ble_eq_true rfl) ?_
  intro p e s m below meth c A ls C K hw hl
  exact q_X9_coldestPair_0 C K a_told a_told_house a_told_free a_told_stuffed a_told_after a_told_weight a_told_need a_S a_S_cells a_laws told_gloves told_matters told_pride told_coins told_house S_cells r0  hF hw (lv_sub hl [0] rfl)
abbrev rm_X9_gloveMost : Room := { frames := 0, cells := 0, slots := 0, locals := 0 }
theorem in_X9_gloveMost_X9 : ∀ w ∈ u_ws RX9 TX9 3, w ∈ wsX9_gloveMost := fun w h => List.mem_cons_of_mem _ (bi_wsX90 w h)
theorem in_X9_gloveMost_X5 : ∀ w ∈ u_ws RX5 TX5 10, w ∈ wsX9_gloveMost := fun w h => List.mem_cons_of_mem _ (bi_wsX50 w h)
theorem lk_X9_gloveMost_0 : Cond.fieldLink RX9 15 "GloveHouses$State" "told" "LGloveHouses$Peace;" ∈ wsX9_gloveMost := List.mem_cons_of_mem _ (bi_wsL_law0_r5 _ (List.mem_of_getElem? (i := 12) rfl))
theorem lk_X9_gloveMost_1 : Cond.fieldLink RX9 102 "GloveHouses$Peace" "gloves" "I" ∈ wsX9_gloveMost := List.mem_cons_of_mem _ (bi_wsL_law0_r37 _ (List.mem_of_getElem? (i := 4) rfl))
theorem lk_X9_gloveMost_2 : Cond.fieldLink RX9 11 "GloveHouses$State" "cells" "[I" ∈ wsX9_gloveMost := List.mem_cons_of_mem _ (bi_wsL_law0_r5 _ (List.mem_of_getElem? (i := 11) rfl))
set_option maxHeartbeats 4000000 in
set_option maxRecDepth 100000 in
theorem q_X9_gloveMost_36 {p : Program} {l : Launch} {e : Env} {s : State} {m : MethodId} {args : Array Value} {below : List Frame} {meth : Method} {c : Code} {sx : List sx_T} {D : va_G} {cI cZ cO : ClassId} {A : Nat → Prop} (C : Cx p s m args meth c RX9 wsX9_gloveMost cX9_gloveMost 4 (some .int)) (K : Kx sx D (tyL cI cZ cO) A s) (a_told : Nat) (a_told_house : Nat) (a_told_free : Nat) (a_told_stuffed : Nat) (a_told_after : Nat) (a_told_weight : Nat) (a_told_need : Nat) (a_S : Nat) (a_S_cells : Nat) (a_laws : Nat) (told_gloves : Int32) (told_matters : Int32) (told_pride : Int32) (told_coins : Int32) (S_cells : Nat → Int32) (r0 : Int32)   (k4 : Int32 → Int32 → Int32 → Option (Int32)) (hk4 : ∀ (v1 : Int32) (v2 : Int32) (v3 : Int32) (H : Heap) (locs : List Loc) (ls : Array Slot), k4 v1 v2 v3 = some r0 → Wo D A s [(oX5 a_told (.int told_gloves) (.int told_matters) (.int told_pride) (.int told_coins) (.ref a_told_house) (.ref a_told_free) (.ref a_told_stuffed) (.ref a_told_after) (.ref a_told_weight) (.ref a_told_need)), (oX9 a_S (.ref a_S_cells) (.ref a_told) (.ref a_laws)), (a_S_cells, .inl (cI, 69, .inl S_cells))] H locs → lv_has ls 4 [(0, .ref a_S), (1, .int v1), (2, .int v2), (3, .int v3)] → W p l e rm_X9_gloveMost s m args below meth c H locs 0 0 (MQ below (QcI D A r0 [(oX5 a_told (.int told_gloves) (.int told_matters) (.int told_pride) (.int told_coins) (.ref a_told_house) (.ref a_told_free) (.ref a_told_stuffed) (.ref a_told_after) (.ref a_told_weight) (.ref a_told_need)), (oX9 a_S (.ref a_S_cells) (.ref a_told) (.ref a_laws)), (a_S_cells, .inl (cI, 69, .inl S_cells))]) args s 0 0 A) (F0 m 4 ls [])) (v1 : Int32) (v2 : Int32) (v3 : Int32) {H : Heap} {locs : List Loc} {ls : Array Slot} (hf : b_X9_gloveMost_36 told_gloves S_cells k4 v1 v2 v3 = some r0) (hw : Wo D A s [(oX5 a_told (.int told_gloves) (.int told_matters) (.int told_pride) (.int told_coins) (.ref a_told_house) (.ref a_told_free) (.ref a_told_stuffed) (.ref a_told_after) (.ref a_told_weight) (.ref a_told_need)), (oX9 a_S (.ref a_S_cells) (.ref a_told) (.ref a_laws)), (a_S_cells, .inl (cI, 69, .inl S_cells))] H locs) (hl : lv_has ls 4 [(0, .ref a_S), (1, .int v1), (2, .int v2), (3, .int v3)]) : W p l e rm_X9_gloveMost s m args below meth c H locs 0 0 (MQ below (QcI D A r0 [(oX5 a_told (.int told_gloves) (.int told_matters) (.int told_pride) (.int told_coins) (.ref a_told_house) (.ref a_told_free) (.ref a_told_stuffed) (.ref a_told_after) (.ref a_told_weight) (.ref a_told_need)), (oX9 a_S (.ref a_S_cells) (.ref a_told) (.ref a_laws)), (a_S_cells, .inl (cI, 69, .inl S_cells))]) args s 0 0 A) (F0 m 36 ls []) := by
  obtain ⟨hx, hb, hml, hown, hts, hr, hlk⟩ := id C
  obtain ⟨hK, hX, hA⟩ := id K
  unfold b_X9_gloveMost_36 at hf
  obtain ⟨v3_1, e_v3_1, hf⟩ := bnd_some hf
  refine lv_iinc (v := v3_1) (lv' := [(3, .int v3_1), (0, .ref a_S), (1, .int v1), (2, .int v2)]) hx hb dX9_gloveMost_36 hl (k := 3) rfl (by rw [e_v3_1]; rfl) (by decide) rfl (fun ls hl => ?_)
  refine lv_goto (tgt := 4) hx hb dX9_gloveMost_39 (by decide) ?_
  exact hk4 v1 v2 v3_1 _ _ _ hf hw (lv_sub hl [1, 2, 3, 0] rfl)
set_option maxHeartbeats 4000000 in
set_option maxRecDepth 100000 in
theorem q_X9_gloveMost_4 {p : Program} {l : Launch} {e : Env} {s : State} {m : MethodId} {args : Array Value} {below : List Frame} {meth : Method} {c : Code} {sx : List sx_T} {D : va_G} {cI cZ cO : ClassId} {A : Nat → Prop} (C : Cx p s m args meth c RX9 wsX9_gloveMost cX9_gloveMost 4 (some .int)) (K : Kx sx D (tyL cI cZ cO) A s) (a_told : Nat) (a_told_house : Nat) (a_told_free : Nat) (a_told_stuffed : Nat) (a_told_after : Nat) (a_told_weight : Nat) (a_told_need : Nat) (a_S : Nat) (a_S_cells : Nat) (a_laws : Nat) (told_gloves : Int32) (told_matters : Int32) (told_pride : Int32) (told_coins : Int32) (S_cells : Nat → Int32) (r0 : Int32)   (k4 : Int32 → Int32 → Int32 → Option (Int32)) (hk4 : ∀ (v1 : Int32) (v2 : Int32) (v3 : Int32) (H : Heap) (locs : List Loc) (ls : Array Slot), k4 v1 v2 v3 = some r0 → Wo D A s [(oX5 a_told (.int told_gloves) (.int told_matters) (.int told_pride) (.int told_coins) (.ref a_told_house) (.ref a_told_free) (.ref a_told_stuffed) (.ref a_told_after) (.ref a_told_weight) (.ref a_told_need)), (oX9 a_S (.ref a_S_cells) (.ref a_told) (.ref a_laws)), (a_S_cells, .inl (cI, 69, .inl S_cells))] H locs → lv_has ls 4 [(0, .ref a_S), (1, .int v1), (2, .int v2), (3, .int v3)] → W p l e rm_X9_gloveMost s m args below meth c H locs 0 0 (MQ below (QcI D A r0 [(oX5 a_told (.int told_gloves) (.int told_matters) (.int told_pride) (.int told_coins) (.ref a_told_house) (.ref a_told_free) (.ref a_told_stuffed) (.ref a_told_after) (.ref a_told_weight) (.ref a_told_need)), (oX9 a_S (.ref a_S_cells) (.ref a_told) (.ref a_laws)), (a_S_cells, .inl (cI, 69, .inl S_cells))]) args s 0 0 A) (F0 m 4 ls [])) (v1 : Int32) (v2 : Int32) (v3 : Int32) {H : Heap} {locs : List Loc} {ls : Array Slot} (hf : b_X9_gloveMost_4 told_gloves S_cells k4 v1 v2 v3 = some r0) (hw : Wo D A s [(oX5 a_told (.int told_gloves) (.int told_matters) (.int told_pride) (.int told_coins) (.ref a_told_house) (.ref a_told_free) (.ref a_told_stuffed) (.ref a_told_after) (.ref a_told_weight) (.ref a_told_need)), (oX9 a_S (.ref a_S_cells) (.ref a_told) (.ref a_laws)), (a_S_cells, .inl (cI, 69, .inl S_cells))] H locs) (hl : lv_has ls 4 [(0, .ref a_S), (1, .int v1), (2, .int v2), (3, .int v3)]) : W p l e rm_X9_gloveMost s m args below meth c H locs 0 0 (MQ below (QcI D A r0 [(oX5 a_told (.int told_gloves) (.int told_matters) (.int told_pride) (.int told_coins) (.ref a_told_house) (.ref a_told_free) (.ref a_told_stuffed) (.ref a_told_after) (.ref a_told_weight) (.ref a_told_need)), (oX9 a_S (.ref a_S_cells) (.ref a_told) (.ref a_laws)), (a_S_cells, .inl (cI, 69, .inl S_cells))]) args s 0 0 A) (F0 m 4 ls []) := by
  obtain ⟨hx, hb, hml, hown, hts, hr, hlk⟩ := id C
  obtain ⟨hK, hX, hA⟩ := id K
  unfold b_X9_gloveMost_4 at hf
  refine lv_iload_n hx hb dX9_gloveMost_4 rfl (lv_at hl 3 rfl) ?_
  refine lv_aload_n hx hb dX9_gloveMost_5 rfl (lv_at hl 0 rfl) ?_
  refine va_get (ci := 9) (v := .ref a_told) (C := RX9) (T := TX9) (N := 3) hx hb hts in_X9_gloveMost_X9 hown hK hw.1 1 rfl rfl 1 (by decide) (hts _ lk_X9_gloveMost_0) (fun _ h9 => h9) rfl dX9_gloveMost_6 ?_
  refine va_get (ci := 5) (v := .int told_gloves) (C := RX5) (T := TX5) (N := 10) hx hb hts in_X9_gloveMost_X5 hown hK hw.1 0 rfl rfl 0 (by decide) (hts _ lk_X9_gloveMost_1) (fun _ h9 => h9) rfl dX9_gloveMost_9 ?_
  refine lv_icmp_ge (tgt := 42) hx hb dX9_gloveMost_12 (by decide) (fun hc => ?_) (fun hc => ?_)
  · have hf := (if_pos hc).symm.trans hf
    refine lv_iload_n hx hb dX9_gloveMost_42 rfl (lv_at hl 2 rfl) ?_
    clear hk4; cases hf
    exact retI C hw dX9_gloveMost_43 rfl
  · have hf := (if_neg hc).symm.trans hf
    refine lv_aload_n hx hb dX9_gloveMost_15 rfl (lv_at hl 0 rfl) ?_
    refine va_get (ci := 9) (v := .ref a_S_cells) (C := RX9) (T := TX9) (N := 3) hx hb hts in_X9_gloveMost_X9 hown hK hw.1 1 rfl rfl 0 (by decide) (hts _ lk_X9_gloveMost_2) (fun _ h9 => h9) rfl dX9_gloveMost_16 ?_
    refine lv_iload_n hx hb dX9_gloveMost_19 rfl (lv_at hl 1 rfl) ?_
    refine lv_iload_n hx hb dX9_gloveMost_20 rfl (lv_at hl 3 rfl) ?_
    refine lv_iadd hx hb dX9_gloveMost_21 ?_
    obtain ⟨hc_1, hf⟩ := gd_some hf
    refine va_iald hx hb hK hw.1 2 0 rfl rfl (inB_in hc_1) dX9_gloveMost_22 ?_
    refine lv_aload_n hx hb dX9_gloveMost_23 rfl (lv_at hl 0 rfl) ?_
    refine va_get (ci := 9) (v := .ref a_S_cells) (C := RX9) (T := TX9) (N := 3) hx hb hts in_X9_gloveMost_X9 hown hK hw.1 1 rfl rfl 0 (by decide) (hts _ lk_X9_gloveMost_2) (fun _ h9 => h9) rfl dX9_gloveMost_24 ?_
    refine lv_iload_n hx hb dX9_gloveMost_27 rfl (lv_at hl 1 rfl) ?_
    refine lv_iload_n hx hb dX9_gloveMost_28 rfl (lv_at hl 2 rfl) ?_
    refine lv_iadd hx hb dX9_gloveMost_29 ?_
    obtain ⟨hc_2, hf⟩ := gd_some hf
    refine va_iald hx hb hK hw.1 2 0 rfl rfl (inB_in hc_2) dX9_gloveMost_30 ?_
    refine lv_icmp_le (tgt := 36) hx hb dX9_gloveMost_31 (by decide) (fun hc => ?_) (fun hc => ?_)
    · have hf := (if_pos hc).symm.trans hf
      exact q_X9_gloveMost_36 C K a_told a_told_house a_told_free a_told_stuffed a_told_after a_told_weight a_told_need a_S a_S_cells a_laws told_gloves told_matters told_pride told_coins S_cells r0 k4 hk4 v1 v2 v3 hf hw (lv_sub hl [0, 1, 2, 3] rfl)
    · have hf := (if_neg hc).symm.trans hf
      refine lv_iload_n hx hb dX9_gloveMost_34 rfl (lv_at hl 3 rfl) ?_
      refine lv_istore_n (lv' := [(2, .int v3), (0, .ref a_S), (1, .int v1), (3, .int v3)]) hx hb dX9_gloveMost_35 rfl hl (by decide) rfl (fun ls hl => ?_)
      exact q_X9_gloveMost_36 C K a_told a_told_house a_told_free a_told_stuffed a_told_after a_told_weight a_told_need a_S a_S_cells a_laws told_gloves told_matters told_pride told_coins S_cells r0 k4 hk4 v1 v3 v3 hf hw (lv_sub hl [1, 2, 0, 3] rfl)
theorem qf_X9_gloveMost_4 {p : Program} {l : Launch} {e : Env} {s : State} {m : MethodId} {args : Array Value} {below : List Frame} {meth : Method} {c : Code} {sx : List sx_T} {D : va_G} {cI cZ cO : ClassId} {A : Nat → Prop} (C : Cx p s m args meth c RX9 wsX9_gloveMost cX9_gloveMost 4 (some .int)) (K : Kx sx D (tyL cI cZ cO) A s) (a_told : Nat) (a_told_house : Nat) (a_told_free : Nat) (a_told_stuffed : Nat) (a_told_after : Nat) (a_told_weight : Nat) (a_told_need : Nat) (a_S : Nat) (a_S_cells : Nat) (a_laws : Nat) (told_gloves : Int32) (told_matters : Int32) (told_pride : Int32) (told_coins : Int32) (S_cells : Nat → Int32) (r0 : Int32)    (n : Nat) : ∀ (v1 : Int32) (v2 : Int32) (v3 : Int32) (H : Heap) (locs : List Loc) (ls : Array Slot), f_X9_gloveMost_4 told_gloves S_cells  n v1 v2 v3 = some r0 → Wo D A s [(oX5 a_told (.int told_gloves) (.int told_matters) (.int told_pride) (.int told_coins) (.ref a_told_house) (.ref a_told_free) (.ref a_told_stuffed) (.ref a_told_after) (.ref a_told_weight) (.ref a_told_need)), (oX9 a_S (.ref a_S_cells) (.ref a_told) (.ref a_laws)), (a_S_cells, .inl (cI, 69, .inl S_cells))] H locs → lv_has ls 4 [(0, .ref a_S), (1, .int v1), (2, .int v2), (3, .int v3)] → W p l e rm_X9_gloveMost s m args below meth c H locs 0 0 (MQ below (QcI D A r0 [(oX5 a_told (.int told_gloves) (.int told_matters) (.int told_pride) (.int told_coins) (.ref a_told_house) (.ref a_told_free) (.ref a_told_stuffed) (.ref a_told_after) (.ref a_told_weight) (.ref a_told_need)), (oX9 a_S (.ref a_S_cells) (.ref a_told) (.ref a_laws)), (a_S_cells, .inl (cI, 69, .inl S_cells))]) args s 0 0 A) (F0 m 4 ls []) := by
  induction n with
  | zero =>
    intro v1 v2 v3 H locs ls hf
    have h9 : (none : Option (Int32)) = some r0 := hf
    cases h9
  | succ n ih =>
    intro v1 v2 v3 H locs ls hf hw hl
    exact q_X9_gloveMost_4 C K a_told a_told_house a_told_free a_told_stuffed a_told_after a_told_weight a_told_need a_S a_S_cells a_laws told_gloves told_matters told_pride told_coins S_cells r0  (f_X9_gloveMost_4 told_gloves S_cells  n) ih v1 v2 v3 hf hw hl
set_option maxHeartbeats 4000000 in
set_option maxRecDepth 100000 in
theorem q_X9_gloveMost_0 {p : Program} {l : Launch} {e : Env} {s : State} {m : MethodId} {args : Array Value} {below : List Frame} {meth : Method} {c : Code} {sx : List sx_T} {D : va_G} {cI cZ cO : ClassId} {A : Nat → Prop} (C : Cx p s m args meth c RX9 wsX9_gloveMost cX9_gloveMost 4 (some .int)) (K : Kx sx D (tyL cI cZ cO) A s) (a_told : Nat) (a_told_house : Nat) (a_told_free : Nat) (a_told_stuffed : Nat) (a_told_after : Nat) (a_told_weight : Nat) (a_told_need : Nat) (a_S : Nat) (a_S_cells : Nat) (a_laws : Nat) (told_gloves : Int32) (told_matters : Int32) (told_pride : Int32) (told_coins : Int32) (S_cells : Nat → Int32) (r0 : Int32)    (v1 : Int32) {H : Heap} {locs : List Loc} {ls : Array Slot} (hf : b_X9_gloveMost_0 told_gloves S_cells  v1 = some r0) (hw : Wo D A s [(oX5 a_told (.int told_gloves) (.int told_matters) (.int told_pride) (.int told_coins) (.ref a_told_house) (.ref a_told_free) (.ref a_told_stuffed) (.ref a_told_after) (.ref a_told_weight) (.ref a_told_need)), (oX9 a_S (.ref a_S_cells) (.ref a_told) (.ref a_laws)), (a_S_cells, .inl (cI, 69, .inl S_cells))] H locs) (hl : lv_has ls 4 [(0, .ref a_S), (1, .int v1)]) : W p l e rm_X9_gloveMost s m args below meth c H locs 0 0 (MQ below (QcI D A r0 [(oX5 a_told (.int told_gloves) (.int told_matters) (.int told_pride) (.int told_coins) (.ref a_told_house) (.ref a_told_free) (.ref a_told_stuffed) (.ref a_told_after) (.ref a_told_weight) (.ref a_told_need)), (oX9 a_S (.ref a_S_cells) (.ref a_told) (.ref a_laws)), (a_S_cells, .inl (cI, 69, .inl S_cells))]) args s 0 0 A) (F0 m 0 ls []) := by
  obtain ⟨hx, hb, hml, hown, hts, hr, hlk⟩ := id C
  obtain ⟨hK, hX, hA⟩ := id K
  unfold b_X9_gloveMost_0 at hf
  refine lv_iconst (v := (0 : Int32)) hx hb dX9_gloveMost_0 (by decide) ?_
  refine lv_istore_n (lv' := [(2, .int (0 : Int32)), (0, .ref a_S), (1, .int v1)]) hx hb dX9_gloveMost_1 rfl hl (by decide) rfl (fun ls hl => ?_)
  refine lv_iconst (v := (1 : Int32)) hx hb dX9_gloveMost_2 (by decide) ?_
  refine lv_istore_n (lv' := [(3, .int (1 : Int32)), (2, .int (0 : Int32)), (0, .ref a_S), (1, .int v1)]) hx hb dX9_gloveMost_3 rfl hl (by decide) rfl (fun ls hl => ?_)
  exact qf_X9_gloveMost_4 C K a_told a_told_house a_told_free a_told_stuffed a_told_after a_told_weight a_told_need a_S a_S_cells a_laws told_gloves told_matters told_pride told_coins S_cells r0  fu v1 (0 : Int32) (1 : Int32) _ _ _ hf hw (lv_sub hl [2, 3, 1, 0] rfl)
set_option maxHeartbeats 4000000 in
set_option maxRecDepth 100000 in
theorem k_X9_gloveMost {l : Launch} {sx : List sx_T} {D : va_G} {cI cZ cO : ClassId} (a_told : Nat) (a_told_house : Nat) (a_told_free : Nat) (a_told_stuffed : Nat) (a_told_after : Nat) (a_told_weight : Nat) (a_told_need : Nat) (a_S : Nat) (a_S_cells : Nat) (a_laws : Nat) (told_gloves : Int32) (told_matters : Int32) (told_pride : Int32) (told_coins : Int32) (S_cells : Nat → Int32) (r0 : Int32) (p1 : Int32) (hF : f_X9_gloveMost told_gloves S_cells p1 = some r0) : CtI l yX9_gloveMost wsX9_gloveMost rm_X9_gloveMost sx D (tyL cI cZ cO) [.ref a_S, .int p1] [(oX5 a_told (.int told_gloves) (.int told_matters) (.int told_pride) (.int told_coins) (.ref a_told_house) (.ref a_told_free) (.ref a_told_stuffed) (.ref a_told_after) (.ref a_told_weight) (.ref a_told_need)), (oX9 a_S (.ref a_S_cells) (.ref a_told) (.ref a_laws)), (a_S_cells, .inl (cI, 69, .inl S_cells))] r0 [(oX5 a_told (.int told_gloves) (.int told_matters) (.int told_pride) (.int told_coins) (.ref a_told_house) (.ref a_told_free) (.ref a_told_stuffed) (.ref a_told_after) (.ref a_told_weight) (.ref a_told_need)), (oX9 a_S (.ref a_S_cells) (.ref a_told) (.ref a_laws)), (a_S_cells, .inl (cI, 69, .inl S_cells))] := by
  refine ctI_of (cc := cX9_gloveMost) (ret := (some .int)) (maxL := 4) (by decide) rfl (Nat.le_of_ble_eq_true rfl) ?_
  intro p e s m below meth c A ls C K hw hl
  exact q_X9_gloveMost_0 C K a_told a_told_house a_told_free a_told_stuffed a_told_after a_told_weight a_told_need a_S a_S_cells a_laws told_gloves told_matters told_pride told_coins S_cells r0 p1 hF hw (lv_sub hl [0, 1] rfl)
abbrev rm_X9_freest : Room := { frames := 1, cells := 0, slots := 0, locals := 23 }
set_option maxHeartbeats 4000000 in
set_option maxRecDepth 100000 in
theorem q_X9_freest_0 {p : Program} {l : Launch} {e : Env} {s : State} {m : MethodId} {args : Array Value} {below : List Frame} {meth : Method} {c : Code} {sx : List sx_T} {D : va_G} {cI cZ cO : ClassId} {A : Nat → Prop} (C : Cx p s m args meth c RX9 wsX9_freest cX9_freest 1 (some .int)) (K : Kx sx D (tyL cI cZ cO) A s) (a_told : Nat) (a_told_house : Nat) (a_told_free : Nat) (a_told_stuffed : Nat) (a_told_after : Nat) (a_told_weight : Nat) (a_told_need : Nat) (a_S : Nat) (a_S_cells : Nat) (a_laws : Nat) (told_gloves : Int32) (told_matters : Int32) (told_pride : Int32) (told_coins : Int32) (S_cells : Nat → Int32) (r0 : Int32)     {H : Heap} {locs : List Loc} {ls : Array Slot} (hf : b_X9_freest_0 told_gloves S_cells   = some r0) (hw : Wo D A s [(oX5 a_told (.int told_gloves) (.int told_matters) (.int told_pride) (.int told_coins) (.ref a_told_house) (.ref a_told_free) (.ref a_told_stuffed) (.ref a_told_after) (.ref a_told_weight) (.ref a_told_need)), (oX9 a_S (.ref a_S_cells) (.ref a_told) (.ref a_laws)), (a_S_cells, .inl (cI, 69, .inl S_cells))] H locs) (hl : lv_has ls 1 [(0, .ref a_S)]) : W p l e rm_X9_freest s m args below meth c H locs 0 0 (MQ below (QcI D A r0 [(oX5 a_told (.int told_gloves) (.int told_matters) (.int told_pride) (.int told_coins) (.ref a_told_house) (.ref a_told_free) (.ref a_told_stuffed) (.ref a_told_after) (.ref a_told_weight) (.ref a_told_need)), (oX9 a_S (.ref a_S_cells) (.ref a_told) (.ref a_laws)), (a_S_cells, .inl (cI, 69, .inl S_cells))]) args s 0 0 A) (F0 m 0 ls []) := by
  obtain ⟨hx, hb, hml, hown, hts, hr, hlk⟩ := id C
  obtain ⟨hK, hX, hA⟩ := id K
  unfold b_X9_freest_0 at hf
  refine lv_aload_n hx hb dX9_freest_0 rfl (lv_at hl 0 rfl) ?_
  refine lv_bipush (v := (36 : Int32)) hx hb dX9_freest_1 (by decide) ?_
  obtain ⟨r_1, hg_2, hf⟩ := ob1_some hf
  refine cl_ViA (As := [.int (36 : Int32)]) (rest := []) C K hw (k_X9_gloveMost a_told a_told_house a_told_free a_told_stuffed a_told_after a_told_weight a_told_need a_S a_S_cells a_laws told_gloves told_matters told_pride told_coins S_cells r_1 (36 : Int32) hg_2) [0, 1, 2] rfl (by decide) rfl rfl (ci := 9) (j := 1) rfl rfl (cwV 1 hts gX9_freest_X9_gloveMost rfl rfl rfl (by decide +kernel) ⟨Nat.le_of_ble_eq_true rfl, Nat.le_of_ble_eq_true rfl⟩) rfl hl rfl (Nat.le_of_ble_eq_true rfl) dX9_freest_3 ⟨Nat.zero_le _, Nat.zero_le _⟩ (fun H locs hw => ?_)
  have hw : Wo D A s [(oX5 a_told (.int told_gloves) (.int told_matters) (.int told_pride) (.int told_coins) (.ref a_told_house) (.ref a_told_free) (.ref a_told_stuffed) (.ref a_told_after) (.ref a_told_weight) (.ref a_told_need)), (oX9 a_S (.ref a_S_cells) (.ref a_told) (.ref a_laws)), (a_S_cells, .inl (cI, 69, .inl S_cells))] H locs := hw
  cases hf
  exact retI C hw dX9_freest_6 rfl
set_option maxHeartbeats 4000000 in
set_option maxRecDepth 100000 in
theorem k_X9_freest {l : Launch} {sx : List sx_T} {D : va_G} {cI cZ cO : ClassId} (a_told : Nat) (a_told_house : Nat) (a_told_free : Nat) (a_told_stuffed : Nat) (a_told_after : Nat) (a_told_weight : Nat) (a_told_need : Nat) (a_S : Nat) (a_S_cells : Nat) (a_laws : Nat) (told_gloves : Int32) (told_matters : Int32) (told_pride : Int32) (told_coins : Int32) (S_cells : Nat → Int32) (r0 : Int32) (hF : f_X9_freest told_gloves S_cells = some r0) : CtI l yX9_freest wsX9_freest rm_X9_freest sx D (tyL cI cZ cO) [.ref a_S] [(oX5 a_told (.int told_gloves) (.int told_matters) (.int told_pride) (.int told_coins) (.ref a_told_house) (.ref a_told_free) (.ref a_told_stuffed) (.ref a_told_after) (.ref a_told_weight) (.ref a_told_need)), (oX9 a_S (.ref a_S_cells) (.ref a_told) (.ref a_laws)), (a_S_cells, .inl (cI, 69, .inl S_cells))] r0 [(oX5 a_told (.int told_gloves) (.int told_matters) (.int told_pride) (.int told_coins) (.ref a_told_house) (.ref a_told_free) (.ref a_told_stuffed) (.ref a_told_after) (.ref a_told_weight) (.ref a_told_need)), (oX9 a_S (.ref a_S_cells) (.ref a_told) (.ref a_laws)), (a_S_cells, .inl (cI, 69, .inl S_cells))] := by
  refine ctI_of (cc := cX9_freest) (ret := (some .int)) (maxL := 1) (by decide) rfl (Nat.le_of_ble_eq_true rfl) ?_
  intro p e s m below meth c A ls C K hw hl
  exact q_X9_freest_0 C K a_told a_told_house a_told_free a_told_stuffed a_told_after a_told_weight a_told_need a_S a_S_cells a_laws told_gloves told_matters told_pride told_coins S_cells r0  hF hw (lv_sub hl [0] rfl)
abbrev rm_X9_stiffest : Room := { frames := 1, cells := 0, slots := 0, locals := 23 }
set_option maxHeartbeats 4000000 in
set_option maxRecDepth 100000 in
theorem q_X9_stiffest_0 {p : Program} {l : Launch} {e : Env} {s : State} {m : MethodId} {args : Array Value} {below : List Frame} {meth : Method} {c : Code} {sx : List sx_T} {D : va_G} {cI cZ cO : ClassId} {A : Nat → Prop} (C : Cx p s m args meth c RX9 wsX9_stiffest cX9_stiffest 1 (some .int)) (K : Kx sx D (tyL cI cZ cO) A s) (a_told : Nat) (a_told_house : Nat) (a_told_free : Nat) (a_told_stuffed : Nat) (a_told_after : Nat) (a_told_weight : Nat) (a_told_need : Nat) (a_S : Nat) (a_S_cells : Nat) (a_laws : Nat) (told_gloves : Int32) (told_matters : Int32) (told_pride : Int32) (told_coins : Int32) (S_cells : Nat → Int32) (r0 : Int32)     {H : Heap} {locs : List Loc} {ls : Array Slot} (hf : b_X9_stiffest_0 told_gloves S_cells   = some r0) (hw : Wo D A s [(oX5 a_told (.int told_gloves) (.int told_matters) (.int told_pride) (.int told_coins) (.ref a_told_house) (.ref a_told_free) (.ref a_told_stuffed) (.ref a_told_after) (.ref a_told_weight) (.ref a_told_need)), (oX9 a_S (.ref a_S_cells) (.ref a_told) (.ref a_laws)), (a_S_cells, .inl (cI, 69, .inl S_cells))] H locs) (hl : lv_has ls 1 [(0, .ref a_S)]) : W p l e rm_X9_stiffest s m args below meth c H locs 0 0 (MQ below (QcI D A r0 [(oX5 a_told (.int told_gloves) (.int told_matters) (.int told_pride) (.int told_coins) (.ref a_told_house) (.ref a_told_free) (.ref a_told_stuffed) (.ref a_told_after) (.ref a_told_weight) (.ref a_told_need)), (oX9 a_S (.ref a_S_cells) (.ref a_told) (.ref a_laws)), (a_S_cells, .inl (cI, 69, .inl S_cells))]) args s 0 0 A) (F0 m 0 ls []) := by
  obtain ⟨hx, hb, hml, hown, hts, hr, hlk⟩ := id C
  obtain ⟨hK, hX, hA⟩ := id K
  unfold b_X9_stiffest_0 at hf
  refine lv_aload_n hx hb dX9_stiffest_0 rfl (lv_at hl 0 rfl) ?_
  refine lv_bipush (v := (42 : Int32)) hx hb dX9_stiffest_1 (by decide) ?_
  obtain ⟨r_1, hg_2, hf⟩ := ob1_some hf
  refine cl_ViA (As := [.int (42 : Int32)]) (rest := []) C K hw (k_X9_gloveMost a_told a_told_house a_told_free a_told_stuffed a_told_after a_told_weight a_told_need a_S a_S_cells a_laws told_gloves told_matters told_pride told_coins S_cells r_1 (42 : Int32) hg_2) [0, 1, 2] rfl (by decide) rfl rfl (ci := 9) (j := 1) rfl rfl (cwV 1 hts gX9_stiffest_X9_gloveMost rfl rfl rfl (by decide +kernel) ⟨Nat.le_of_ble_eq_true rfl, Nat.le_of_ble_eq_true rfl⟩) rfl hl rfl (Nat.le_of_ble_eq_true rfl) dX9_stiffest_3 ⟨Nat.zero_le _, Nat.zero_le _⟩ (fun H locs hw => ?_)
  have hw : Wo D A s [(oX5 a_told (.int told_gloves) (.int told_matters) (.int told_pride) (.int told_coins) (.ref a_told_house) (.ref a_told_free) (.ref a_told_stuffed) (.ref a_told_after) (.ref a_told_weight) (.ref a_told_need)), (oX9 a_S (.ref a_S_cells) (.ref a_told) (.ref a_laws)), (a_S_cells, .inl (cI, 69, .inl S_cells))] H locs := hw
  cases hf
  exact retI C hw dX9_stiffest_6 rfl
set_option maxHeartbeats 4000000 in
set_option maxRecDepth 100000 in
theorem k_X9_stiffest {l : Launch} {sx : List sx_T} {D : va_G} {cI cZ cO : ClassId} (a_told : Nat) (a_told_house : Nat) (a_told_free : Nat) (a_told_stuffed : Nat) (a_told_after : Nat) (a_told_weight : Nat) (a_told_need : Nat) (a_S : Nat) (a_S_cells : Nat) (a_laws : Nat) (told_gloves : Int32) (told_matters : Int32) (told_pride : Int32) (told_coins : Int32) (S_cells : Nat → Int32) (r0 : Int32) (hF : f_X9_stiffest told_gloves S_cells = some r0) : CtI l yX9_stiffest wsX9_stiffest rm_X9_stiffest sx D (tyL cI cZ cO) [.ref a_S] [(oX5 a_told (.int told_gloves) (.int told_matters) (.int told_pride) (.int told_coins) (.ref a_told_house) (.ref a_told_free) (.ref a_told_stuffed) (.ref a_told_after) (.ref a_told_weight) (.ref a_told_need)), (oX9 a_S (.ref a_S_cells) (.ref a_told) (.ref a_laws)), (a_S_cells, .inl (cI, 69, .inl S_cells))] r0 [(oX5 a_told (.int told_gloves) (.int told_matters) (.int told_pride) (.int told_coins) (.ref a_told_house) (.ref a_told_free) (.ref a_told_stuffed) (.ref a_told_after) (.ref a_told_weight) (.ref a_told_need)), (oX9 a_S (.ref a_S_cells) (.ref a_told) (.ref a_laws)), (a_S_cells, .inl (cI, 69, .inl S_cells))] := by
  refine ctI_of (cc := cX9_stiffest) (ret := (some .int)) (maxL := 1) (by decide) rfl (Nat.le_of_ble_eq_true rfl) ?_
  intro p e s m below meth c A ls C K hw hl
  exact q_X9_stiffest_0 C K a_told a_told_house a_told_free a_told_stuffed a_told_after a_told_weight a_told_need a_S a_S_cells a_laws told_gloves told_matters told_pride told_coins S_cells r0  hF hw (lv_sub hl [0] rfl)
abbrev rm_X9_bound : Room := { frames := 1, cells := 0, slots := 0, locals := 21 }
theorem in_X9_bound_X9 : ∀ w ∈ u_ws RX9 TX9 3, w ∈ wsX9_bound := fun w h => List.mem_cons_of_mem _ (bi_wsX90 w h)
theorem in_X9_bound_X5 : ∀ w ∈ u_ws RX5 TX5 10, w ∈ wsX9_bound := fun w h => List.mem_cons_of_mem _ (bi_wsX50 w h)
theorem lk_X9_bound_0 : Cond.fieldLink RX9 15 "GloveHouses$State" "told" "LGloveHouses$Peace;" ∈ wsX9_bound := List.mem_cons_of_mem _ (bi_wsL_law0_r5 _ (List.mem_of_getElem? (i := 12) rfl))
theorem lk_X9_bound_1 : Cond.fieldLink RX9 93 "GloveHouses$Peace" "matters" "I" ∈ wsX9_bound := List.mem_cons_of_mem _ (bi_wsL_law0_r31 _ (List.mem_of_getElem? (i := 8) rfl))
theorem lk_X9_bound_2 : Cond.fieldLink RX9 128 "GloveHouses$Peace" "weight" "[I" ∈ wsX9_bound := List.mem_cons_of_mem _ (bi_wsL_law0_r56 _ (List.mem_of_getElem? (i := 17) rfl))
set_option maxHeartbeats 4000000 in
set_option maxRecDepth 100000 in
theorem q_X9_bound_36 {p : Program} {l : Launch} {e : Env} {s : State} {m : MethodId} {args : Array Value} {below : List Frame} {meth : Method} {c : Code} {sx : List sx_T} {D : va_G} {cI cZ cO : ClassId} {A : Nat → Prop} (C : Cx p s m args meth c RX9 wsX9_bound cX9_bound 3 (some .int)) (K : Kx sx D (tyL cI cZ cO) A s) (a_told : Nat) (a_told_house : Nat) (a_told_free : Nat) (a_told_stuffed : Nat) (a_told_after : Nat) (a_told_weight : Nat) (a_told_need : Nat) (a_S : Nat) (a_S_cells : Nat) (a_laws : Nat) (told_gloves : Int32) (told_matters : Int32) (told_pride : Int32) (told_coins : Int32) (told_weight : Nat → Int32) (S_cells : Nat → Int32) (r0 : Int32)   (k4 : Int32 → Int32 → Option (Int32)) (hk4 : ∀ (v1 : Int32) (v2 : Int32) (H : Heap) (locs : List Loc) (ls : Array Slot), k4 v1 v2 = some r0 → Wo D A s [(oX5 a_told (.int told_gloves) (.int told_matters) (.int told_pride) (.int told_coins) (.ref a_told_house) (.ref a_told_free) (.ref a_told_stuffed) (.ref a_told_after) (.ref a_told_weight) (.ref a_told_need)), (a_told_weight, .inl (cI, 5, .inl told_weight)), (oX9 a_S (.ref a_S_cells) (.ref a_told) (.ref a_laws)), (a_S_cells, .inl (cI, 69, .inl S_cells))] H locs → lv_has ls 3 [(0, .ref a_S), (1, .int v1), (2, .int v2)] → W p l e rm_X9_bound s m args below meth c H locs 0 0 (MQ below (QcI D A r0 [(oX5 a_told (.int told_gloves) (.int told_matters) (.int told_pride) (.int told_coins) (.ref a_told_house) (.ref a_told_free) (.ref a_told_stuffed) (.ref a_told_after) (.ref a_told_weight) (.ref a_told_need)), (a_told_weight, .inl (cI, 5, .inl told_weight)), (oX9 a_S (.ref a_S_cells) (.ref a_told) (.ref a_laws)), (a_S_cells, .inl (cI, 69, .inl S_cells))]) args s 0 0 A) (F0 m 4 ls [])) (v1 : Int32) (v2 : Int32) {H : Heap} {locs : List Loc} {ls : Array Slot} (hf : b_X9_bound_36 told_matters told_weight S_cells k4 v1 v2 = some r0) (hw : Wo D A s [(oX5 a_told (.int told_gloves) (.int told_matters) (.int told_pride) (.int told_coins) (.ref a_told_house) (.ref a_told_free) (.ref a_told_stuffed) (.ref a_told_after) (.ref a_told_weight) (.ref a_told_need)), (a_told_weight, .inl (cI, 5, .inl told_weight)), (oX9 a_S (.ref a_S_cells) (.ref a_told) (.ref a_laws)), (a_S_cells, .inl (cI, 69, .inl S_cells))] H locs) (hl : lv_has ls 3 [(0, .ref a_S), (1, .int v1), (2, .int v2)]) : W p l e rm_X9_bound s m args below meth c H locs 0 0 (MQ below (QcI D A r0 [(oX5 a_told (.int told_gloves) (.int told_matters) (.int told_pride) (.int told_coins) (.ref a_told_house) (.ref a_told_free) (.ref a_told_stuffed) (.ref a_told_after) (.ref a_told_weight) (.ref a_told_need)), (a_told_weight, .inl (cI, 5, .inl told_weight)), (oX9 a_S (.ref a_S_cells) (.ref a_told) (.ref a_laws)), (a_S_cells, .inl (cI, 69, .inl S_cells))]) args s 0 0 A) (F0 m 36 ls []) := by
  obtain ⟨hx, hb, hml, hown, hts, hr, hlk⟩ := id C
  obtain ⟨hK, hX, hA⟩ := id K
  unfold b_X9_bound_36 at hf
  obtain ⟨v2_1, e_v2_1, hf⟩ := bnd_some hf
  refine lv_iinc (v := v2_1) (lv' := [(2, .int v2_1), (0, .ref a_S), (1, .int v1)]) hx hb dX9_bound_36 hl (k := 2) rfl (by rw [e_v2_1]; rfl) (by decide) rfl (fun ls hl => ?_)
  refine lv_goto (tgt := 4) hx hb dX9_bound_39 (by decide) ?_
  exact hk4 v1 v2_1 _ _ _ hf hw (lv_sub hl [1, 2, 0] rfl)
set_option maxHeartbeats 4000000 in
set_option maxRecDepth 100000 in
theorem q_X9_bound_4 {p : Program} {l : Launch} {e : Env} {s : State} {m : MethodId} {args : Array Value} {below : List Frame} {meth : Method} {c : Code} {sx : List sx_T} {D : va_G} {cI cZ cO : ClassId} {A : Nat → Prop} (C : Cx p s m args meth c RX9 wsX9_bound cX9_bound 3 (some .int)) (K : Kx sx D (tyL cI cZ cO) A s) (a_told : Nat) (a_told_house : Nat) (a_told_free : Nat) (a_told_stuffed : Nat) (a_told_after : Nat) (a_told_weight : Nat) (a_told_need : Nat) (a_S : Nat) (a_S_cells : Nat) (a_laws : Nat) (told_gloves : Int32) (told_matters : Int32) (told_pride : Int32) (told_coins : Int32) (told_weight : Nat → Int32) (S_cells : Nat → Int32) (r0 : Int32)   (k4 : Int32 → Int32 → Option (Int32)) (hk4 : ∀ (v1 : Int32) (v2 : Int32) (H : Heap) (locs : List Loc) (ls : Array Slot), k4 v1 v2 = some r0 → Wo D A s [(oX5 a_told (.int told_gloves) (.int told_matters) (.int told_pride) (.int told_coins) (.ref a_told_house) (.ref a_told_free) (.ref a_told_stuffed) (.ref a_told_after) (.ref a_told_weight) (.ref a_told_need)), (a_told_weight, .inl (cI, 5, .inl told_weight)), (oX9 a_S (.ref a_S_cells) (.ref a_told) (.ref a_laws)), (a_S_cells, .inl (cI, 69, .inl S_cells))] H locs → lv_has ls 3 [(0, .ref a_S), (1, .int v1), (2, .int v2)] → W p l e rm_X9_bound s m args below meth c H locs 0 0 (MQ below (QcI D A r0 [(oX5 a_told (.int told_gloves) (.int told_matters) (.int told_pride) (.int told_coins) (.ref a_told_house) (.ref a_told_free) (.ref a_told_stuffed) (.ref a_told_after) (.ref a_told_weight) (.ref a_told_need)), (a_told_weight, .inl (cI, 5, .inl told_weight)), (oX9 a_S (.ref a_S_cells) (.ref a_told) (.ref a_laws)), (a_S_cells, .inl (cI, 69, .inl S_cells))]) args s 0 0 A) (F0 m 4 ls [])) (v1 : Int32) (v2 : Int32) {H : Heap} {locs : List Loc} {ls : Array Slot} (hf : b_X9_bound_4 told_matters told_weight S_cells k4 v1 v2 = some r0) (hw : Wo D A s [(oX5 a_told (.int told_gloves) (.int told_matters) (.int told_pride) (.int told_coins) (.ref a_told_house) (.ref a_told_free) (.ref a_told_stuffed) (.ref a_told_after) (.ref a_told_weight) (.ref a_told_need)), (a_told_weight, .inl (cI, 5, .inl told_weight)), (oX9 a_S (.ref a_S_cells) (.ref a_told) (.ref a_laws)), (a_S_cells, .inl (cI, 69, .inl S_cells))] H locs) (hl : lv_has ls 3 [(0, .ref a_S), (1, .int v1), (2, .int v2)]) : W p l e rm_X9_bound s m args below meth c H locs 0 0 (MQ below (QcI D A r0 [(oX5 a_told (.int told_gloves) (.int told_matters) (.int told_pride) (.int told_coins) (.ref a_told_house) (.ref a_told_free) (.ref a_told_stuffed) (.ref a_told_after) (.ref a_told_weight) (.ref a_told_need)), (a_told_weight, .inl (cI, 5, .inl told_weight)), (oX9 a_S (.ref a_S_cells) (.ref a_told) (.ref a_laws)), (a_S_cells, .inl (cI, 69, .inl S_cells))]) args s 0 0 A) (F0 m 4 ls []) := by
  obtain ⟨hx, hb, hml, hown, hts, hr, hlk⟩ := id C
  obtain ⟨hK, hX, hA⟩ := id K
  unfold b_X9_bound_4 at hf
  refine lv_iload_n hx hb dX9_bound_4 rfl (lv_at hl 2 rfl) ?_
  refine lv_aload_n hx hb dX9_bound_5 rfl (lv_at hl 0 rfl) ?_
  refine va_get (ci := 9) (v := .ref a_told) (C := RX9) (T := TX9) (N := 3) hx hb hts in_X9_bound_X9 hown hK hw.1 2 rfl rfl 1 (by decide) (hts _ lk_X9_bound_0) (fun _ h9 => h9) rfl dX9_bound_6 ?_
  refine va_get (ci := 5) (v := .int told_matters) (C := RX5) (T := TX5) (N := 10) hx hb hts in_X9_bound_X5 hown hK hw.1 0 rfl rfl 1 (by decide) (hts _ lk_X9_bound_1) (fun _ h9 => h9) rfl dX9_bound_9 ?_
  refine lv_icmp_ge (tgt := 42) hx hb dX9_bound_12 (by decide) (fun hc => ?_) (fun hc => ?_)
  · have hf := (if_pos hc).symm.trans hf
    refine lv_iload_n hx hb dX9_bound_42 rfl (lv_at hl 1 rfl) ?_
    clear hk4; cases hf
    exact retI C hw dX9_bound_43 rfl
  · have hf := (if_neg hc).symm.trans hf
    refine lv_aload_n hx hb dX9_bound_15 rfl (lv_at hl 0 rfl) ?_
    refine lv_iload_n hx hb dX9_bound_16 rfl (lv_at hl 2 rfl) ?_
    obtain ⟨r_1, hg_2, hf⟩ := ob1_some hf
    refine cl_ViA (As := [.int v2]) (rest := []) C K hw (k_X9_signers a_S a_S_cells a_told a_laws S_cells r_1 v2 hg_2) [2, 3] rfl (by decide) rfl rfl (ci := 9) (j := 2) rfl rfl (cwV 1 hts gX9_bound_X9_signers rfl rfl rfl (by decide +kernel) ⟨Nat.le_of_ble_eq_true rfl, Nat.le_of_ble_eq_true rfl⟩) rfl hl rfl (Nat.le_of_ble_eq_true rfl) dX9_bound_17 ⟨Nat.zero_le _, Nat.zero_le _⟩ (fun H locs hw => ?_)
    have hw : Wo D A s [(oX5 a_told (.int told_gloves) (.int told_matters) (.int told_pride) (.int told_coins) (.ref a_told_house) (.ref a_told_free) (.ref a_told_stuffed) (.ref a_told_after) (.ref a_told_weight) (.ref a_told_need)), (a_told_weight, .inl (cI, 5, .inl told_weight)), (oX9 a_S (.ref a_S_cells) (.ref a_told) (.ref a_laws)), (a_S_cells, .inl (cI, 69, .inl S_cells))] H locs := hw
    refine lv_iconst (v := (-1 : Int32)) hx hb dX9_bound_20 (by decide) ?_
    refine lv_icmp_eq (tgt := 36) hx hb dX9_bound_21 (by decide) (fun hc => ?_) (fun hc => ?_)
    · have hf := (if_pos hc).symm.trans hf
      exact q_X9_bound_36 C K a_told a_told_house a_told_free a_told_stuffed a_told_after a_told_weight a_told_need a_S a_S_cells a_laws told_gloves told_matters told_pride told_coins told_weight S_cells r0 k4 hk4 v1 v2 hf hw (lv_sub hl [0, 1, 2] rfl)
    · have hf := (if_neg hc).symm.trans hf
      refine lv_iload_n hx hb dX9_bound_24 rfl (lv_at hl 1 rfl) ?_
      refine lv_aload_n hx hb dX9_bound_25 rfl (lv_at hl 0 rfl) ?_
      refine va_get (ci := 9) (v := .ref a_told) (C := RX9) (T := TX9) (N := 3) hx hb hts in_X9_bound_X9 hown hK hw.1 2 rfl rfl 1 (by decide) (hts _ lk_X9_bound_0) (fun _ h9 => h9) rfl dX9_bound_26 ?_
      refine va_get (ci := 5) (v := .ref a_told_weight) (C := RX5) (T := TX5) (N := 10) hx hb hts in_X9_bound_X5 hown hK hw.1 0 rfl rfl 8 (by decide) (hts _ lk_X9_bound_2) (fun _ h9 => h9) rfl dX9_bound_29 ?_
      refine lv_iload_n hx hb dX9_bound_32 rfl (lv_at hl 2 rfl) ?_
      obtain ⟨hc_3, hf⟩ := gd_some hf
      refine va_iald hx hb hK hw.1 1 0 rfl rfl (inB_in hc_3) dX9_bound_33 ?_
      refine lv_iadd hx hb dX9_bound_34 ?_
      obtain ⟨v1_4, e_v1_4, hf⟩ := bnd_some hf
      refine lv_nmi e_v1_4 ?_
      refine lv_istore_n (lv' := [(1, .int v1_4), (0, .ref a_S), (2, .int v2)]) hx hb dX9_bound_35 rfl hl (by decide) rfl (fun ls hl => ?_)
      exact q_X9_bound_36 C K a_told a_told_house a_told_free a_told_stuffed a_told_after a_told_weight a_told_need a_S a_S_cells a_laws told_gloves told_matters told_pride told_coins told_weight S_cells r0 k4 hk4 v1_4 v2 hf hw (lv_sub hl [1, 0, 2] rfl)
theorem qf_X9_bound_4 {p : Program} {l : Launch} {e : Env} {s : State} {m : MethodId} {args : Array Value} {below : List Frame} {meth : Method} {c : Code} {sx : List sx_T} {D : va_G} {cI cZ cO : ClassId} {A : Nat → Prop} (C : Cx p s m args meth c RX9 wsX9_bound cX9_bound 3 (some .int)) (K : Kx sx D (tyL cI cZ cO) A s) (a_told : Nat) (a_told_house : Nat) (a_told_free : Nat) (a_told_stuffed : Nat) (a_told_after : Nat) (a_told_weight : Nat) (a_told_need : Nat) (a_S : Nat) (a_S_cells : Nat) (a_laws : Nat) (told_gloves : Int32) (told_matters : Int32) (told_pride : Int32) (told_coins : Int32) (told_weight : Nat → Int32) (S_cells : Nat → Int32) (r0 : Int32)    (n : Nat) : ∀ (v1 : Int32) (v2 : Int32) (H : Heap) (locs : List Loc) (ls : Array Slot), f_X9_bound_4 told_matters told_weight S_cells  n v1 v2 = some r0 → Wo D A s [(oX5 a_told (.int told_gloves) (.int told_matters) (.int told_pride) (.int told_coins) (.ref a_told_house) (.ref a_told_free) (.ref a_told_stuffed) (.ref a_told_after) (.ref a_told_weight) (.ref a_told_need)), (a_told_weight, .inl (cI, 5, .inl told_weight)), (oX9 a_S (.ref a_S_cells) (.ref a_told) (.ref a_laws)), (a_S_cells, .inl (cI, 69, .inl S_cells))] H locs → lv_has ls 3 [(0, .ref a_S), (1, .int v1), (2, .int v2)] → W p l e rm_X9_bound s m args below meth c H locs 0 0 (MQ below (QcI D A r0 [(oX5 a_told (.int told_gloves) (.int told_matters) (.int told_pride) (.int told_coins) (.ref a_told_house) (.ref a_told_free) (.ref a_told_stuffed) (.ref a_told_after) (.ref a_told_weight) (.ref a_told_need)), (a_told_weight, .inl (cI, 5, .inl told_weight)), (oX9 a_S (.ref a_S_cells) (.ref a_told) (.ref a_laws)), (a_S_cells, .inl (cI, 69, .inl S_cells))]) args s 0 0 A) (F0 m 4 ls []) := by
  induction n with
  | zero =>
    intro v1 v2 H locs ls hf
    have h9 : (none : Option (Int32)) = some r0 := hf
    cases h9
  | succ n ih =>
    intro v1 v2 H locs ls hf hw hl
    exact q_X9_bound_4 C K a_told a_told_house a_told_free a_told_stuffed a_told_after a_told_weight a_told_need a_S a_S_cells a_laws told_gloves told_matters told_pride told_coins told_weight S_cells r0  (f_X9_bound_4 told_matters told_weight S_cells  n) ih v1 v2 hf hw hl
set_option maxHeartbeats 4000000 in
set_option maxRecDepth 100000 in
theorem q_X9_bound_0 {p : Program} {l : Launch} {e : Env} {s : State} {m : MethodId} {args : Array Value} {below : List Frame} {meth : Method} {c : Code} {sx : List sx_T} {D : va_G} {cI cZ cO : ClassId} {A : Nat → Prop} (C : Cx p s m args meth c RX9 wsX9_bound cX9_bound 3 (some .int)) (K : Kx sx D (tyL cI cZ cO) A s) (a_told : Nat) (a_told_house : Nat) (a_told_free : Nat) (a_told_stuffed : Nat) (a_told_after : Nat) (a_told_weight : Nat) (a_told_need : Nat) (a_S : Nat) (a_S_cells : Nat) (a_laws : Nat) (told_gloves : Int32) (told_matters : Int32) (told_pride : Int32) (told_coins : Int32) (told_weight : Nat → Int32) (S_cells : Nat → Int32) (r0 : Int32)     {H : Heap} {locs : List Loc} {ls : Array Slot} (hf : b_X9_bound_0 told_matters told_weight S_cells   = some r0) (hw : Wo D A s [(oX5 a_told (.int told_gloves) (.int told_matters) (.int told_pride) (.int told_coins) (.ref a_told_house) (.ref a_told_free) (.ref a_told_stuffed) (.ref a_told_after) (.ref a_told_weight) (.ref a_told_need)), (a_told_weight, .inl (cI, 5, .inl told_weight)), (oX9 a_S (.ref a_S_cells) (.ref a_told) (.ref a_laws)), (a_S_cells, .inl (cI, 69, .inl S_cells))] H locs) (hl : lv_has ls 3 [(0, .ref a_S)]) : W p l e rm_X9_bound s m args below meth c H locs 0 0 (MQ below (QcI D A r0 [(oX5 a_told (.int told_gloves) (.int told_matters) (.int told_pride) (.int told_coins) (.ref a_told_house) (.ref a_told_free) (.ref a_told_stuffed) (.ref a_told_after) (.ref a_told_weight) (.ref a_told_need)), (a_told_weight, .inl (cI, 5, .inl told_weight)), (oX9 a_S (.ref a_S_cells) (.ref a_told) (.ref a_laws)), (a_S_cells, .inl (cI, 69, .inl S_cells))]) args s 0 0 A) (F0 m 0 ls []) := by
  obtain ⟨hx, hb, hml, hown, hts, hr, hlk⟩ := id C
  obtain ⟨hK, hX, hA⟩ := id K
  unfold b_X9_bound_0 at hf
  refine lv_iconst (v := (0 : Int32)) hx hb dX9_bound_0 (by decide) ?_
  refine lv_istore_n (lv' := [(1, .int (0 : Int32)), (0, .ref a_S)]) hx hb dX9_bound_1 rfl hl (by decide) rfl (fun ls hl => ?_)
  refine lv_iconst (v := (0 : Int32)) hx hb dX9_bound_2 (by decide) ?_
  refine lv_istore_n (lv' := [(2, .int (0 : Int32)), (1, .int (0 : Int32)), (0, .ref a_S)]) hx hb dX9_bound_3 rfl hl (by decide) rfl (fun ls hl => ?_)
  exact qf_X9_bound_4 C K a_told a_told_house a_told_free a_told_stuffed a_told_after a_told_weight a_told_need a_S a_S_cells a_laws told_gloves told_matters told_pride told_coins told_weight S_cells r0  fu (0 : Int32) (0 : Int32) _ _ _ hf hw (lv_sub hl [2, 1, 0] rfl)
set_option maxHeartbeats 4000000 in
set_option maxRecDepth 100000 in
theorem k_X9_bound {l : Launch} {sx : List sx_T} {D : va_G} {cI cZ cO : ClassId} (a_told : Nat) (a_told_house : Nat) (a_told_free : Nat) (a_told_stuffed : Nat) (a_told_after : Nat) (a_told_weight : Nat) (a_told_need : Nat) (a_S : Nat) (a_S_cells : Nat) (a_laws : Nat) (told_gloves : Int32) (told_matters : Int32) (told_pride : Int32) (told_coins : Int32) (told_weight : Nat → Int32) (S_cells : Nat → Int32) (r0 : Int32) (hF : f_X9_bound told_matters told_weight S_cells = some r0) : CtI l yX9_bound wsX9_bound rm_X9_bound sx D (tyL cI cZ cO) [.ref a_S] [(oX5 a_told (.int told_gloves) (.int told_matters) (.int told_pride) (.int told_coins) (.ref a_told_house) (.ref a_told_free) (.ref a_told_stuffed) (.ref a_told_after) (.ref a_told_weight) (.ref a_told_need)), (a_told_weight, .inl (cI, 5, .inl told_weight)), (oX9 a_S (.ref a_S_cells) (.ref a_told) (.ref a_laws)), (a_S_cells, .inl (cI, 69, .inl S_cells))] r0 [(oX5 a_told (.int told_gloves) (.int told_matters) (.int told_pride) (.int told_coins) (.ref a_told_house) (.ref a_told_free) (.ref a_told_stuffed) (.ref a_told_after) (.ref a_told_weight) (.ref a_told_need)), (a_told_weight, .inl (cI, 5, .inl told_weight)), (oX9 a_S (.ref a_S_cells) (.ref a_told) (.ref a_laws)), (a_S_cells, .inl (cI, 69, .inl S_cells))] := by
  refine ctI_of (cc := cX9_bound) (ret := (some .int)) (maxL := 3) (by decide) rfl (Nat.le_of_ble_eq_true rfl) ?_
  intro p e s m below meth c A ls C K hw hl
  exact q_X9_bound_0 C K a_told a_told_house a_told_free a_told_stuffed a_told_after a_told_weight a_told_need a_S a_S_cells a_laws told_gloves told_matters told_pride told_coins told_weight S_cells r0  hF hw (lv_sub hl [0] rfl)
abbrev rm_X9_dueBits : Room := { frames := 4, cells := 0, slots := 0, locals := 87 }
theorem in_X9_dueBits_X9 : ∀ w ∈ u_ws RX9 TX9 3, w ∈ wsX9_dueBits := fun w h => List.mem_cons_of_mem _ (bi_wsX90 w h)
theorem in_X9_dueBits_X5 : ∀ w ∈ u_ws RX5 TX5 10, w ∈ wsX9_dueBits := fun w h => List.mem_cons_of_mem _ (bi_wsX50 w h)
theorem lk_X9_dueBits_0 : Cond.fieldLink RX9 15 "GloveHouses$State" "told" "LGloveHouses$Peace;" ∈ wsX9_dueBits := List.mem_cons_of_mem _ (bi_wsL_law0_r5 _ (List.mem_of_getElem? (i := 12) rfl))
theorem lk_X9_dueBits_1 : Cond.fieldLink RX9 93 "GloveHouses$Peace" "matters" "I" ∈ wsX9_dueBits := List.mem_cons_of_mem _ (bi_wsL_law0_r31 _ (List.mem_of_getElem? (i := 8) rfl))
theorem lk_X9_dueBits_2 : Cond.fieldLink RX9 99 "GloveHouses$Peace" "need" "[I" ∈ wsX9_dueBits := List.mem_cons_of_mem _ (bi_wsL_law0_r31 _ (List.mem_of_getElem? (i := 9) rfl))
set_option maxHeartbeats 4000000 in
set_option maxRecDepth 100000 in
theorem q_X9_dueBits_75 {p : Program} {l : Launch} {e : Env} {s : State} {m : MethodId} {args : Array Value} {below : List Frame} {meth : Method} {c : Code} {sx : List sx_T} {D : va_G} {cI cZ cO : ClassId} {A : Nat → Prop} (C : Cx p s m args meth c RX9 wsX9_dueBits cX9_dueBits 5 (some .int)) (K : Kx sx D (tyL cI cZ cO) A s) (a_told : Nat) (a_told_house : Nat) (a_told_free : Nat) (a_told_stuffed : Nat) (a_told_after : Nat) (a_told_weight : Nat) (a_told_need : Nat) (a_S : Nat) (a_S_cells : Nat) (a_laws : Nat) (told_gloves : Int32) (told_matters : Int32) (told_pride : Int32) (told_coins : Int32) (told_house : Nat → Int32) (told_need : Nat → Int32) (S_cells : Nat → Int32) (r0 : Int32)   (k32 : Int32 → Int32 → Int32 → Option (Int32)) (hk32 : ∀ (v2 : Int32) (v3 : Int32) (v4 : Int32) (H : Heap) (locs : List Loc) (ls : Array Slot), k32 v2 v3 v4 = some r0 → Wo D A s [(oX5 a_told (.int told_gloves) (.int told_matters) (.int told_pride) (.int told_coins) (.ref a_told_house) (.ref a_told_free) (.ref a_told_stuffed) (.ref a_told_after) (.ref a_told_weight) (.ref a_told_need)), (a_told_house, .inl (cI, 6, .inl told_house)), (a_told_need, .inl (cI, 5, .inl told_need)), (oX9 a_S (.ref a_S_cells) (.ref a_told) (.ref a_laws)), (a_S_cells, .inl (cI, 69, .inl S_cells))] H locs → lv_has ls 5 [(0, .ref a_S), (2, .int v2), (3, .int v3), (4, .int v4)] → W p l e rm_X9_dueBits s m args below meth c H locs 0 0 (MQ below (QcI D A r0 [(oX5 a_told (.int told_gloves) (.int told_matters) (.int told_pride) (.int told_coins) (.ref a_told_house) (.ref a_told_free) (.ref a_told_stuffed) (.ref a_told_after) (.ref a_told_weight) (.ref a_told_need)), (a_told_house, .inl (cI, 6, .inl told_house)), (a_told_need, .inl (cI, 5, .inl told_need)), (oX9 a_S (.ref a_S_cells) (.ref a_told) (.ref a_laws)), (a_S_cells, .inl (cI, 69, .inl S_cells))]) args s 0 0 A) (F0 m 32 ls [])) (v2 : Int32) (v3 : Int32) (v4 : Int32) {H : Heap} {locs : List Loc} {ls : Array Slot} (hf : b_X9_dueBits_75 told_gloves told_matters told_house told_need S_cells k32 v2 v3 v4 = some r0) (hw : Wo D A s [(oX5 a_told (.int told_gloves) (.int told_matters) (.int told_pride) (.int told_coins) (.ref a_told_house) (.ref a_told_free) (.ref a_told_stuffed) (.ref a_told_after) (.ref a_told_weight) (.ref a_told_need)), (a_told_house, .inl (cI, 6, .inl told_house)), (a_told_need, .inl (cI, 5, .inl told_need)), (oX9 a_S (.ref a_S_cells) (.ref a_told) (.ref a_laws)), (a_S_cells, .inl (cI, 69, .inl S_cells))] H locs) (hl : lv_has ls 5 [(0, .ref a_S), (2, .int v2), (3, .int v3), (4, .int v4)]) : W p l e rm_X9_dueBits s m args below meth c H locs 0 0 (MQ below (QcI D A r0 [(oX5 a_told (.int told_gloves) (.int told_matters) (.int told_pride) (.int told_coins) (.ref a_told_house) (.ref a_told_free) (.ref a_told_stuffed) (.ref a_told_after) (.ref a_told_weight) (.ref a_told_need)), (a_told_house, .inl (cI, 6, .inl told_house)), (a_told_need, .inl (cI, 5, .inl told_need)), (oX9 a_S (.ref a_S_cells) (.ref a_told) (.ref a_laws)), (a_S_cells, .inl (cI, 69, .inl S_cells))]) args s 0 0 A) (F0 m 75 ls []) := by
  obtain ⟨hx, hb, hml, hown, hts, hr, hlk⟩ := id C
  obtain ⟨hK, hX, hA⟩ := id K
  unfold b_X9_dueBits_75 at hf
  obtain ⟨v4_1, e_v4_1, hf⟩ := bnd_some hf
  refine lv_iinc (v := v4_1) (lv' := [(4, .int v4_1), (0, .ref a_S), (2, .int v2), (3, .int v3)]) hx hb dX9_dueBits_75 hl (k := 3) rfl (by rw [e_v4_1]; rfl) (by decide) rfl (fun ls hl => ?_)
  refine lv_goto (tgt := 32) hx hb dX9_dueBits_78 (by decide) ?_
  exact hk32 v2 v3 v4_1 _ _ _ hf hw (lv_sub hl [1, 2, 3, 0] rfl)
set_option maxHeartbeats 4000000 in
set_option maxRecDepth 100000 in
theorem q_X9_dueBits_32 {p : Program} {l : Launch} {e : Env} {s : State} {m : MethodId} {args : Array Value} {below : List Frame} {meth : Method} {c : Code} {sx : List sx_T} {D : va_G} {cI cZ cO : ClassId} {A : Nat → Prop} (C : Cx p s m args meth c RX9 wsX9_dueBits cX9_dueBits 5 (some .int)) (K : Kx sx D (tyL cI cZ cO) A s) (a_told : Nat) (a_told_house : Nat) (a_told_free : Nat) (a_told_stuffed : Nat) (a_told_after : Nat) (a_told_weight : Nat) (a_told_need : Nat) (a_S : Nat) (a_S_cells : Nat) (a_laws : Nat) (told_gloves : Int32) (told_matters : Int32) (told_pride : Int32) (told_coins : Int32) (told_house : Nat → Int32) (told_need : Nat → Int32) (S_cells : Nat → Int32) (r0 : Int32)   (k32 : Int32 → Int32 → Int32 → Option (Int32)) (hk32 : ∀ (v2 : Int32) (v3 : Int32) (v4 : Int32) (H : Heap) (locs : List Loc) (ls : Array Slot), k32 v2 v3 v4 = some r0 → Wo D A s [(oX5 a_told (.int told_gloves) (.int told_matters) (.int told_pride) (.int told_coins) (.ref a_told_house) (.ref a_told_free) (.ref a_told_stuffed) (.ref a_told_after) (.ref a_told_weight) (.ref a_told_need)), (a_told_house, .inl (cI, 6, .inl told_house)), (a_told_need, .inl (cI, 5, .inl told_need)), (oX9 a_S (.ref a_S_cells) (.ref a_told) (.ref a_laws)), (a_S_cells, .inl (cI, 69, .inl S_cells))] H locs → lv_has ls 5 [(0, .ref a_S), (2, .int v2), (3, .int v3), (4, .int v4)] → W p l e rm_X9_dueBits s m args below meth c H locs 0 0 (MQ below (QcI D A r0 [(oX5 a_told (.int told_gloves) (.int told_matters) (.int told_pride) (.int told_coins) (.ref a_told_house) (.ref a_told_free) (.ref a_told_stuffed) (.ref a_told_after) (.ref a_told_weight) (.ref a_told_need)), (a_told_house, .inl (cI, 6, .inl told_house)), (a_told_need, .inl (cI, 5, .inl told_need)), (oX9 a_S (.ref a_S_cells) (.ref a_told) (.ref a_laws)), (a_S_cells, .inl (cI, 69, .inl S_cells))]) args s 0 0 A) (F0 m 32 ls [])) (v2 : Int32) (v3 : Int32) (v4 : Int32) {H : Heap} {locs : List Loc} {ls : Array Slot} (hf : b_X9_dueBits_32 told_gloves told_matters told_house told_need S_cells k32 v2 v3 v4 = some r0) (hw : Wo D A s [(oX5 a_told (.int told_gloves) (.int told_matters) (.int told_pride) (.int told_coins) (.ref a_told_house) (.ref a_told_free) (.ref a_told_stuffed) (.ref a_told_after) (.ref a_told_weight) (.ref a_told_need)), (a_told_house, .inl (cI, 6, .inl told_house)), (a_told_need, .inl (cI, 5, .inl told_need)), (oX9 a_S (.ref a_S_cells) (.ref a_told) (.ref a_laws)), (a_S_cells, .inl (cI, 69, .inl S_cells))] H locs) (hl : lv_has ls 5 [(0, .ref a_S), (2, .int v2), (3, .int v3), (4, .int v4)]) : W p l e rm_X9_dueBits s m args below meth c H locs 0 0 (MQ below (QcI D A r0 [(oX5 a_told (.int told_gloves) (.int told_matters) (.int told_pride) (.int told_coins) (.ref a_told_house) (.ref a_told_free) (.ref a_told_stuffed) (.ref a_told_after) (.ref a_told_weight) (.ref a_told_need)), (a_told_house, .inl (cI, 6, .inl told_house)), (a_told_need, .inl (cI, 5, .inl told_need)), (oX9 a_S (.ref a_S_cells) (.ref a_told) (.ref a_laws)), (a_S_cells, .inl (cI, 69, .inl S_cells))]) args s 0 0 A) (F0 m 32 ls []) := by
  obtain ⟨hx, hb, hml, hown, hts, hr, hlk⟩ := id C
  obtain ⟨hK, hX, hA⟩ := id K
  unfold b_X9_dueBits_32 at hf
  refine lv_iload hx hb dX9_dueBits_32 (lv_at hl 3 rfl) ?_
  refine lv_aload_n hx hb dX9_dueBits_34 rfl (lv_at hl 0 rfl) ?_
  refine va_get (ci := 9) (v := .ref a_told) (C := RX9) (T := TX9) (N := 3) hx hb hts in_X9_dueBits_X9 hown hK hw.1 3 rfl rfl 1 (by decide) (hts _ lk_X9_dueBits_0) (fun _ h9 => h9) rfl dX9_dueBits_35 ?_
  refine va_get (ci := 5) (v := .int told_matters) (C := RX5) (T := TX5) (N := 10) hx hb hts in_X9_dueBits_X5 hown hK hw.1 0 rfl rfl 1 (by decide) (hts _ lk_X9_dueBits_1) (fun _ h9 => h9) rfl dX9_dueBits_38 ?_
  refine lv_icmp_ge (tgt := 81) hx hb dX9_dueBits_41 (by decide) (fun hc => ?_) (fun hc => ?_)
  · have hf := (if_pos hc).symm.trans hf
    refine lv_iload_n hx hb dX9_dueBits_81 rfl (lv_at hl 2 rfl) ?_
    clear hk32; cases hf
    exact retI C hw dX9_dueBits_82 rfl
  · have hf := (if_neg hc).symm.trans hf
    refine lv_aload_n hx hb dX9_dueBits_44 rfl (lv_at hl 0 rfl) ?_
    refine lv_iload hx hb dX9_dueBits_45 (lv_at hl 3 rfl) ?_
    obtain ⟨r_1, hg_2, hf⟩ := ob1_some hf
    refine cl_ViA (As := [.int v4]) (rest := []) C K hw (k_X9_signers a_S a_S_cells a_told a_laws S_cells r_1 v4 hg_2) [3, 4] rfl (by decide) rfl rfl (ci := 9) (j := 3) rfl rfl (cwV 1 hts gX9_dueBits_X9_signers rfl rfl rfl (by decide +kernel) ⟨Nat.le_of_ble_eq_true rfl, Nat.le_of_ble_eq_true rfl⟩) rfl hl rfl (Nat.le_of_ble_eq_true rfl) dX9_dueBits_47 ⟨Nat.zero_le _, Nat.zero_le _⟩ (fun H locs hw => ?_)
    have hw : Wo D A s [(oX5 a_told (.int told_gloves) (.int told_matters) (.int told_pride) (.int told_coins) (.ref a_told_house) (.ref a_told_free) (.ref a_told_stuffed) (.ref a_told_after) (.ref a_told_weight) (.ref a_told_need)), (a_told_house, .inl (cI, 6, .inl told_house)), (a_told_need, .inl (cI, 5, .inl told_need)), (oX9 a_S (.ref a_S_cells) (.ref a_told) (.ref a_laws)), (a_S_cells, .inl (cI, 69, .inl S_cells))] H locs := hw
    refine lv_iconst (v := (-1 : Int32)) hx hb dX9_dueBits_50 (by decide) ?_
    refine lv_icmp_ne (tgt := 75) hx hb dX9_dueBits_51 (by decide) (fun hc => ?_) (fun hc => ?_)
    · have hf := (if_neg hc).symm.trans hf
      exact q_X9_dueBits_75 C K a_told a_told_house a_told_free a_told_stuffed a_told_after a_told_weight a_told_need a_S a_S_cells a_laws told_gloves told_matters told_pride told_coins told_house told_need S_cells r0 k32 hk32 v2 v3 v4 hf hw (lv_sub hl [0, 1, 2, 3] rfl)
    · have hf := (if_pos hc).symm.trans hf
      refine lv_iload_n hx hb dX9_dueBits_54 rfl (lv_at hl 1 rfl) ?_
      refine lv_aload_n hx hb dX9_dueBits_55 rfl (lv_at hl 0 rfl) ?_
      refine va_get (ci := 9) (v := .ref a_told) (C := RX9) (T := TX9) (N := 3) hx hb hts in_X9_dueBits_X9 hown hK hw.1 3 rfl rfl 1 (by decide) (hts _ lk_X9_dueBits_0) (fun _ h9 => h9) rfl dX9_dueBits_56 ?_
      refine va_get (ci := 5) (v := .ref a_told_need) (C := RX5) (T := TX5) (N := 10) hx hb hts in_X9_dueBits_X5 hown hK hw.1 0 rfl rfl 9 (by decide) (hts _ lk_X9_dueBits_2) (fun _ h9 => h9) rfl dX9_dueBits_59 ?_
      refine lv_iload hx hb dX9_dueBits_62 (lv_at hl 3 rfl) ?_
      obtain ⟨hc_3, hf⟩ := gd_some hf
      refine va_iald hx hb hK hw.1 2 0 rfl rfl (inB_in hc_3) dX9_dueBits_64 ?_
      refine lv_icmp_lt (tgt := 75) hx hb dX9_dueBits_65 (by decide) (fun hc => ?_) (fun hc => ?_)
      · have hf := (if_pos hc).symm.trans hf
        exact q_X9_dueBits_75 C K a_told a_told_house a_told_free a_told_stuffed a_told_after a_told_weight a_told_need a_S a_S_cells a_laws told_gloves told_matters told_pride told_coins told_house told_need S_cells r0 k32 hk32 v2 v3 v4 hf hw (lv_sub hl [0, 1, 2, 3] rfl)
      · have hf := (if_neg hc).symm.trans hf
        refine lv_iload_n hx hb dX9_dueBits_68 rfl (lv_at hl 2 rfl) ?_
        refine lv_iconst (v := (1 : Int32)) hx hb dX9_dueBits_69 (by decide) ?_
        refine lv_iload hx hb dX9_dueBits_70 (lv_at hl 3 rfl) ?_
        refine lv_ishl hx hb dX9_dueBits_72 ?_
        refine lv_ior hx hb dX9_dueBits_73 ?_
        obtain ⟨v3_4, e_v3_4, hf⟩ := bnd_some hf
        refine lv_nmi e_v3_4 ?_
        refine lv_istore_n (lv' := [(3, .int v3_4), (0, .ref a_S), (2, .int v2), (4, .int v4)]) hx hb dX9_dueBits_74 rfl hl (by decide) rfl (fun ls hl => ?_)
        exact q_X9_dueBits_75 C K a_told a_told_house a_told_free a_told_stuffed a_told_after a_told_weight a_told_need a_S a_S_cells a_laws told_gloves told_matters told_pride told_coins told_house told_need S_cells r0 k32 hk32 v2 v3_4 v4 hf hw (lv_sub hl [1, 2, 0, 3] rfl)
theorem qf_X9_dueBits_32 {p : Program} {l : Launch} {e : Env} {s : State} {m : MethodId} {args : Array Value} {below : List Frame} {meth : Method} {c : Code} {sx : List sx_T} {D : va_G} {cI cZ cO : ClassId} {A : Nat → Prop} (C : Cx p s m args meth c RX9 wsX9_dueBits cX9_dueBits 5 (some .int)) (K : Kx sx D (tyL cI cZ cO) A s) (a_told : Nat) (a_told_house : Nat) (a_told_free : Nat) (a_told_stuffed : Nat) (a_told_after : Nat) (a_told_weight : Nat) (a_told_need : Nat) (a_S : Nat) (a_S_cells : Nat) (a_laws : Nat) (told_gloves : Int32) (told_matters : Int32) (told_pride : Int32) (told_coins : Int32) (told_house : Nat → Int32) (told_need : Nat → Int32) (S_cells : Nat → Int32) (r0 : Int32)    (n : Nat) : ∀ (v2 : Int32) (v3 : Int32) (v4 : Int32) (H : Heap) (locs : List Loc) (ls : Array Slot), f_X9_dueBits_32 told_gloves told_matters told_house told_need S_cells  n v2 v3 v4 = some r0 → Wo D A s [(oX5 a_told (.int told_gloves) (.int told_matters) (.int told_pride) (.int told_coins) (.ref a_told_house) (.ref a_told_free) (.ref a_told_stuffed) (.ref a_told_after) (.ref a_told_weight) (.ref a_told_need)), (a_told_house, .inl (cI, 6, .inl told_house)), (a_told_need, .inl (cI, 5, .inl told_need)), (oX9 a_S (.ref a_S_cells) (.ref a_told) (.ref a_laws)), (a_S_cells, .inl (cI, 69, .inl S_cells))] H locs → lv_has ls 5 [(0, .ref a_S), (2, .int v2), (3, .int v3), (4, .int v4)] → W p l e rm_X9_dueBits s m args below meth c H locs 0 0 (MQ below (QcI D A r0 [(oX5 a_told (.int told_gloves) (.int told_matters) (.int told_pride) (.int told_coins) (.ref a_told_house) (.ref a_told_free) (.ref a_told_stuffed) (.ref a_told_after) (.ref a_told_weight) (.ref a_told_need)), (a_told_house, .inl (cI, 6, .inl told_house)), (a_told_need, .inl (cI, 5, .inl told_need)), (oX9 a_S (.ref a_S_cells) (.ref a_told) (.ref a_laws)), (a_S_cells, .inl (cI, 69, .inl S_cells))]) args s 0 0 A) (F0 m 32 ls []) := by
  induction n with
  | zero =>
    intro v2 v3 v4 H locs ls hf
    have h9 : (none : Option (Int32)) = some r0 := hf
    cases h9
  | succ n ih =>
    intro v2 v3 v4 H locs ls hf hw hl
    exact q_X9_dueBits_32 C K a_told a_told_house a_told_free a_told_stuffed a_told_after a_told_weight a_told_need a_S a_S_cells a_laws told_gloves told_matters told_pride told_coins told_house told_need S_cells r0  (f_X9_dueBits_32 told_gloves told_matters told_house told_need S_cells  n) ih v2 v3 v4 hf hw hl
set_option maxHeartbeats 4000000 in
set_option maxRecDepth 100000 in
theorem q_X9_dueBits_26 {p : Program} {l : Launch} {e : Env} {s : State} {m : MethodId} {args : Array Value} {below : List Frame} {meth : Method} {c : Code} {sx : List sx_T} {D : va_G} {cI cZ cO : ClassId} {A : Nat → Prop} (C : Cx p s m args meth c RX9 wsX9_dueBits cX9_dueBits 5 (some .int)) (K : Kx sx D (tyL cI cZ cO) A s) (a_told : Nat) (a_told_house : Nat) (a_told_free : Nat) (a_told_stuffed : Nat) (a_told_after : Nat) (a_told_weight : Nat) (a_told_need : Nat) (a_S : Nat) (a_S_cells : Nat) (a_laws : Nat) (told_gloves : Int32) (told_matters : Int32) (told_pride : Int32) (told_coins : Int32) (told_house : Nat → Int32) (told_need : Nat → Int32) (S_cells : Nat → Int32) (r0 : Int32)    (t0 : Int32) {H : Heap} {locs : List Loc} {ls : Array Slot} (hf : b_X9_dueBits_26 told_gloves told_matters told_house told_need S_cells  t0 = some r0) (hw : Wo D A s [(oX5 a_told (.int told_gloves) (.int told_matters) (.int told_pride) (.int told_coins) (.ref a_told_house) (.ref a_told_free) (.ref a_told_stuffed) (.ref a_told_after) (.ref a_told_weight) (.ref a_told_need)), (a_told_house, .inl (cI, 6, .inl told_house)), (a_told_need, .inl (cI, 5, .inl told_need)), (oX9 a_S (.ref a_S_cells) (.ref a_told) (.ref a_laws)), (a_S_cells, .inl (cI, 69, .inl S_cells))] H locs) (hl : lv_has ls 5 [(0, .ref a_S)]) : W p l e rm_X9_dueBits s m args below meth c H locs 0 0 (MQ below (QcI D A r0 [(oX5 a_told (.int told_gloves) (.int told_matters) (.int told_pride) (.int told_coins) (.ref a_told_house) (.ref a_told_free) (.ref a_told_stuffed) (.ref a_told_after) (.ref a_told_weight) (.ref a_told_need)), (a_told_house, .inl (cI, 6, .inl told_house)), (a_told_need, .inl (cI, 5, .inl told_need)), (oX9 a_S (.ref a_S_cells) (.ref a_told) (.ref a_laws)), (a_S_cells, .inl (cI, 69, .inl S_cells))]) args s 0 0 A) (F0 m 26 ls [.int t0]) := by
  obtain ⟨hx, hb, hml, hown, hts, hr, hlk⟩ := id C
  obtain ⟨hK, hX, hA⟩ := id K
  unfold b_X9_dueBits_26 at hf
  refine lv_istore_n (lv' := [(2, .int t0), (0, .ref a_S)]) hx hb dX9_dueBits_26 rfl hl (by decide) rfl (fun ls hl => ?_)
  refine lv_iconst (v := (0 : Int32)) hx hb dX9_dueBits_27 (by decide) ?_
  refine lv_istore_n (lv' := [(3, .int (0 : Int32)), (2, .int t0), (0, .ref a_S)]) hx hb dX9_dueBits_28 rfl hl (by decide) rfl (fun ls hl => ?_)
  refine lv_iconst (v := (0 : Int32)) hx hb dX9_dueBits_29 (by decide) ?_
  refine lv_istore (lv' := [(4, .int (0 : Int32)), (3, .int (0 : Int32)), (2, .int t0), (0, .ref a_S)]) hx hb dX9_dueBits_30 hl (by decide) rfl (fun ls hl => ?_)
  exact qf_X9_dueBits_32 C K a_told a_told_house a_told_free a_told_stuffed a_told_after a_told_weight a_told_need a_S a_S_cells a_laws told_gloves told_matters told_pride told_coins told_house told_need S_cells r0  fu t0 (0 : Int32) (0 : Int32) _ _ _ hf hw (lv_sub hl [3, 2, 1, 0] rfl)
set_option maxHeartbeats 4000000 in
set_option maxRecDepth 100000 in
theorem q_X9_dueBits_0 {p : Program} {l : Launch} {e : Env} {s : State} {m : MethodId} {args : Array Value} {below : List Frame} {meth : Method} {c : Code} {sx : List sx_T} {D : va_G} {cI cZ cO : ClassId} {A : Nat → Prop} (C : Cx p s m args meth c RX9 wsX9_dueBits cX9_dueBits 5 (some .int)) (K : Kx sx D (tyL cI cZ cO) A s) (a_told : Nat) (a_told_house : Nat) (a_told_free : Nat) (a_told_stuffed : Nat) (a_told_after : Nat) (a_told_weight : Nat) (a_told_need : Nat) (a_S : Nat) (a_S_cells : Nat) (a_laws : Nat) (told_gloves : Int32) (told_matters : Int32) (told_pride : Int32) (told_coins : Int32) (told_house : Nat → Int32) (told_need : Nat → Int32) (S_cells : Nat → Int32) (r0 : Int32)     {H : Heap} {locs : List Loc} {ls : Array Slot} (hf : b_X9_dueBits_0 told_gloves told_matters told_house told_need S_cells   = some r0) (hw : Wo D A s [(oX5 a_told (.int told_gloves) (.int told_matters) (.int told_pride) (.int told_coins) (.ref a_told_house) (.ref a_told_free) (.ref a_told_stuffed) (.ref a_told_after) (.ref a_told_weight) (.ref a_told_need)), (a_told_house, .inl (cI, 6, .inl told_house)), (a_told_need, .inl (cI, 5, .inl told_need)), (oX9 a_S (.ref a_S_cells) (.ref a_told) (.ref a_laws)), (a_S_cells, .inl (cI, 69, .inl S_cells))] H locs) (hl : lv_has ls 5 [(0, .ref a_S)]) : W p l e rm_X9_dueBits s m args below meth c H locs 0 0 (MQ below (QcI D A r0 [(oX5 a_told (.int told_gloves) (.int told_matters) (.int told_pride) (.int told_coins) (.ref a_told_house) (.ref a_told_free) (.ref a_told_stuffed) (.ref a_told_after) (.ref a_told_weight) (.ref a_told_need)), (a_told_house, .inl (cI, 6, .inl told_house)), (a_told_need, .inl (cI, 5, .inl told_need)), (oX9 a_S (.ref a_S_cells) (.ref a_told) (.ref a_laws)), (a_S_cells, .inl (cI, 69, .inl S_cells))]) args s 0 0 A) (F0 m 0 ls []) := by
  obtain ⟨hx, hb, hml, hown, hts, hr, hlk⟩ := id C
  obtain ⟨hK, hX, hA⟩ := id K
  unfold b_X9_dueBits_0 at hf
  refine lv_aload_n hx hb dX9_dueBits_0 rfl (lv_at hl 0 rfl) ?_
  obtain ⟨r_1, hg_2, hf⟩ := ob1_some hf
  refine cl_ViA (As := []) (rest := []) C K hw (k_X9_warmestPair a_told a_told_house a_told_free a_told_stuffed a_told_after a_told_weight a_told_need a_S a_S_cells a_laws told_gloves told_matters told_pride told_coins told_house S_cells r_1 hg_2) [0, 1, 3, 4] rfl (by decide) rfl rfl (ci := 9) (j := 3) rfl rfl (cwV 0 hts gX9_dueBits_X9_warmestPair rfl rfl rfl (by decide +kernel) ⟨Nat.le_of_ble_eq_true rfl, Nat.le_of_ble_eq_true rfl⟩) rfl hl rfl (Nat.le_of_ble_eq_true rfl) dX9_dueBits_1 ⟨Nat.zero_le _, Nat.zero_le _⟩ (fun H locs hw => ?_)
  have hw : Wo D A s [(oX5 a_told (.int told_gloves) (.int told_matters) (.int told_pride) (.int told_coins) (.ref a_told_house) (.ref a_told_free) (.ref a_told_stuffed) (.ref a_told_after) (.ref a_told_weight) (.ref a_told_need)), (a_told_house, .inl (cI, 6, .inl told_house)), (a_told_need, .inl (cI, 5, .inl told_need)), (oX9 a_S (.ref a_S_cells) (.ref a_told) (.ref a_laws)), (a_S_cells, .inl (cI, 69, .inl S_cells))] H locs := hw
  refine lv_istore_n (lv' := [(1, .int r_1), (0, .ref a_S)]) hx hb dX9_dueBits_4 rfl hl (by decide) rfl (fun ls hl => ?_)
  refine lv_iload_n hx hb dX9_dueBits_5 rfl (lv_at hl 0 rfl) ?_
  refine lv_iconst (v := (-1 : Int32)) hx hb dX9_dueBits_6 (by decide) ?_
  refine lv_icmp_ne (tgt := 14) hx hb dX9_dueBits_7 (by decide) (fun hc => ?_) (fun hc => ?_)
  · have hf := (if_neg hc).symm.trans hf
    refine lv_aload_n hx hb dX9_dueBits_14 rfl (lv_at hl 1 rfl) ?_
    refine lv_iload_n hx hb dX9_dueBits_15 rfl (lv_at hl 0 rfl) ?_
    refine lv_bipush (v := (10 : Int32)) hx hb dX9_dueBits_16 (by decide) ?_
    refine lv_idiv hx hb dX9_dueBits_18 (by decide) ?_
    refine lv_iload_n hx hb dX9_dueBits_19 rfl (lv_at hl 0 rfl) ?_
    refine lv_bipush (v := (10 : Int32)) hx hb dX9_dueBits_20 (by decide) ?_
    refine lv_irem hx hb dX9_dueBits_22 (by decide) ?_
    obtain ⟨n_3, e_n_3, hf⟩ := bnd_some hf
    refine lv_nmi e_n_3 ?_
    obtain ⟨r_4, hg_5, hf⟩ := ob1_some hf
    refine cl_ViA (As := [.int (r_1 / (10 : Int32)), .int n_3]) (rest := []) C K hw (k_X9_warmthOf a_S a_S_cells a_told a_laws S_cells r_4 (r_1 / (10 : Int32)) n_3 hg_5) [3, 4] rfl (by decide) rfl rfl (ci := 9) (j := 3) rfl rfl (cwV 2 hts gX9_dueBits_X9_warmthOf rfl rfl rfl (by decide +kernel) ⟨Nat.le_of_ble_eq_true rfl, Nat.le_of_ble_eq_true rfl⟩) rfl hl rfl (Nat.le_of_ble_eq_true rfl) dX9_dueBits_23 ⟨Nat.zero_le _, Nat.zero_le _⟩ (fun H locs hw => ?_)
    have hw : Wo D A s [(oX5 a_told (.int told_gloves) (.int told_matters) (.int told_pride) (.int told_coins) (.ref a_told_house) (.ref a_told_free) (.ref a_told_stuffed) (.ref a_told_after) (.ref a_told_weight) (.ref a_told_need)), (a_told_house, .inl (cI, 6, .inl told_house)), (a_told_need, .inl (cI, 5, .inl told_need)), (oX9 a_S (.ref a_S_cells) (.ref a_told) (.ref a_laws)), (a_S_cells, .inl (cI, 69, .inl S_cells))] H locs := hw
    exact q_X9_dueBits_26 C K a_told a_told_house a_told_free a_told_stuffed a_told_after a_told_weight a_told_need a_S a_S_cells a_laws told_gloves told_matters told_pride told_coins told_house told_need S_cells r0  r_4 hf hw (lv_sub hl [1] rfl)
  · have hf := (if_pos hc).symm.trans hf
    refine lv_iconst (v := (-1 : Int32)) hx hb dX9_dueBits_10 (by decide) ?_
    refine lv_goto (tgt := 26) hx hb dX9_dueBits_11 (by decide) ?_
    exact q_X9_dueBits_26 C K a_told a_told_house a_told_free a_told_stuffed a_told_after a_told_weight a_told_need a_S a_S_cells a_laws told_gloves told_matters told_pride told_coins told_house told_need S_cells r0  (-1 : Int32) hf hw (lv_sub hl [1] rfl)
set_option maxHeartbeats 4000000 in
set_option maxRecDepth 100000 in
theorem k_X9_dueBits {l : Launch} {sx : List sx_T} {D : va_G} {cI cZ cO : ClassId} (a_told : Nat) (a_told_house : Nat) (a_told_free : Nat) (a_told_stuffed : Nat) (a_told_after : Nat) (a_told_weight : Nat) (a_told_need : Nat) (a_S : Nat) (a_S_cells : Nat) (a_laws : Nat) (told_gloves : Int32) (told_matters : Int32) (told_pride : Int32) (told_coins : Int32) (told_house : Nat → Int32) (told_need : Nat → Int32) (S_cells : Nat → Int32) (r0 : Int32) (hF : f_X9_dueBits told_gloves told_matters told_house told_need S_cells = some r0) : CtI l yX9_dueBits wsX9_dueBits rm_X9_dueBits sx D (tyL cI cZ cO) [.ref a_S] [(oX5 a_told (.int told_gloves) (.int told_matters) (.int told_pride) (.int told_coins) (.ref a_told_house) (.ref a_told_free) (.ref a_told_stuffed) (.ref a_told_after) (.ref a_told_weight) (.ref a_told_need)), (a_told_house, .inl (cI, 6, .inl told_house)), (a_told_need, .inl (cI, 5, .inl told_need)), (oX9 a_S (.ref a_S_cells) (.ref a_told) (.ref a_laws)), (a_S_cells, .inl (cI, 69, .inl S_cells))] r0 [(oX5 a_told (.int told_gloves) (.int told_matters) (.int told_pride) (.int told_coins) (.ref a_told_house) (.ref a_told_free) (.ref a_told_stuffed) (.ref a_told_after) (.ref a_told_weight) (.ref a_told_need)), (a_told_house, .inl (cI, 6, .inl told_house)), (a_told_need, .inl (cI, 5, .inl told_need)), (oX9 a_S (.ref a_S_cells) (.ref a_told) (.ref a_laws)), (a_S_cells, .inl (cI, 69, .inl S_cells))] := by
  refine ctI_of (cc := cX9_dueBits) (ret := (some .int)) (maxL := 5) (by decide) rfl (Nat.le_of_ble_eq_true rfl) ?_
  intro p e s m below meth c A ls C K hw hl
  exact q_X9_dueBits_0 C K a_told a_told_house a_told_free a_told_stuffed a_told_after a_told_weight a_told_need a_S a_S_cells a_laws told_gloves told_matters told_pride told_coins told_house told_need S_cells r0  hF hw (lv_sub hl [0] rfl)
end
