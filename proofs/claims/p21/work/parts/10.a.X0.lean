abbrev rm_X0_forget : Room := { frames := 0, cells := 0, slots := 0, locals := 0 }
theorem in_X0_forget_X0 : ∀ w ∈ u_ws RX0 TX0 3, w ∈ wsX0_forget := fun w h => List.mem_cons_of_mem _ (bi_wsX00 w h)
theorem lk_X0_forget_0 : Cond.fieldLink RX0 28 "GloveHouses$Acts" "size" "I" ∈ wsX0_forget := List.mem_cons_of_mem _ (bi_wsL_law0_r21 _ (List.mem_of_getElem? (i := 9) rfl))
set_option maxHeartbeats 4000000 in
set_option maxRecDepth 100000 in
theorem q_X0_forget_0 {p : Program} {l : Launch} {e : Env} {s : State} {m : MethodId} {args : Array Value} {below : List Frame} {meth : Method} {c : Code} {sx : List sx_T} {D : va_G} {cI cZ cO : ClassId} {A : Nat → Prop} (C : Cx p s m args meth c RX0 wsX0_forget cX0_forget 1 none) (K : Kx sx D (tyL cI cZ cO) A s) (a_acts : Nat) (a_acts_rows : Nat) (acts_next : Int32) (o_acts_size : Int32)    (acts_size : Int32) {H : Heap} {locs : List Loc} {ls : Array Slot} (hf : b_X0_forget_0   acts_size = some o_acts_size) (hw : Wo D A s [(oX0 a_acts (.int acts_size) (.int acts_next) (.ref a_acts_rows))] H locs) (hl : lv_has ls 1 [(0, .ref a_acts)]) : W p l e rm_X0_forget s m args below meth c H locs 0 0 (MQ below (QcV D A [(oX0 a_acts (.int o_acts_size) (.int acts_next) (.ref a_acts_rows))]) args s 0 0 A) (F0 m 0 ls []) := by
  obtain ⟨hx, hb, hml, hown, hts, hr, hlk⟩ := id C
  obtain ⟨hK, hX, hA⟩ := id K
  unfold b_X0_forget_0 at hf
  refine lv_aload_n hx hb dX0_forget_0 rfl (lv_at hl 0 rfl) ?_
  refine lv_iconst (v := (0 : Int32)) hx hb dX0_forget_1 (by decide) ?_
  refine va_put (ci := 0) (v := .int (0 : Int32)) (ty := .int) (C := RX0) (T := TX0) (N := 3) hx hb hts in_X0_forget_X0 tyX0 tyX0_ok nmX0 hown hK hw.1 hw.2.1 hw.2.2 0 rfl rfl 0 (by decide) (hts _ lk_X0_forget_0) (fun _ h9 => h9) rfl (by decide +kernel) rfl rfl (Nat.le_of_ble_eq_true rfl) dX0_forget_2 (fun H locs hP hD hS => ?_)
  have hw : Wo D A s [(oX0 a_acts (.int (0 : Int32)) (.int acts_next) (.ref a_acts_rows))] H locs := ⟨hP, hD, hS⟩
  cases hf
  exact retV C hw dX0_forget_5
set_option maxHeartbeats 4000000 in
set_option maxRecDepth 100000 in
theorem k_X0_forget {l : Launch} {sx : List sx_T} {D : va_G} {cI cZ cO : ClassId} (a_acts : Nat) (a_acts_rows : Nat) (acts_next : Int32) (o_acts_size : Int32) (acts_size : Int32) (hF : f_X0_forget acts_size = some o_acts_size) : CtV l yX0_forget wsX0_forget rm_X0_forget sx D (tyL cI cZ cO) [.ref a_acts] [(oX0 a_acts (.int acts_size) (.int acts_next) (.ref a_acts_rows))] [(oX0 a_acts (.int o_acts_size) (.int acts_next) (.ref a_acts_rows))] := by
  refine ctV_of (cc := cX0_forget) (ret := none) (maxL := 1) (by decide) rfl (Nat.le_of_ble_eq_true rfl) ?_
  intro p e s m below meth c A ls C K hw hl
  exact q_X0_forget_0 C K a_acts a_acts_rows acts_next o_acts_size acts_size hF hw (lv_sub hl [0] rfl)
abbrev rm_X0_keep : Room := { frames := 1, cells := 0, slots := 0, locals := 26 }
theorem in_X0_keep_X9 : ∀ w ∈ u_ws RX9 TX9 3, w ∈ wsX0_keep := fun w h => List.mem_cons_of_mem _ (bi_wsX90 w h)
theorem in_X0_keep_X0 : ∀ w ∈ u_ws RX0 TX0 3, w ∈ wsX0_keep := fun w h => List.mem_cons_of_mem _ (bi_wsX00 w h)
theorem lk_X0_keep_0 : Cond.fieldLink RX0 15 "GloveHouses$State" "cells" "[I" ∈ wsX0_keep := List.mem_cons_of_mem _ (bi_wsL_law0_r28 _ (List.mem_of_getElem? (i := 21) rfl))
theorem lk_X0_keep_1 : Cond.fieldLink RX0 11 "GloveHouses$Acts" "rows" "[I" ∈ wsX0_keep := List.mem_cons_of_mem _ (bi_wsL_law0_r5 _ (List.mem_of_getElem? (i := 21) rfl))
theorem lk_X0_keep_2 : Cond.fieldLink RX0 18 "GloveHouses$Acts" "next" "I" ∈ wsX0_keep := List.mem_cons_of_mem _ (bi_wsL_law0_r28 _ (List.mem_of_getElem? (i := 22) rfl))
theorem lk_X0_keep_3 : Cond.methodLink RX0 22 arraycopyName ∈ wsX0_keep := List.mem_cons_of_mem _ (bi_wsL_law0_r28 _ (List.mem_of_getElem? (i := 23) rfl))
theorem lk_X0_keep_4 : Cond.native arraycopyName ∈ wsX0_keep := List.mem_cons_of_mem _ (bi_wsL_law0_r10 _ (List.mem_of_getElem? (i := 21) rfl))
theorem lk_X0_keep_5 : Cond.static arraycopyName ∈ wsX0_keep := List.mem_cons_of_mem _ (bi_wsL_law0_r10 _ (List.mem_of_getElem? (i := 22) rfl))
theorem lk_X0_keep_6 : Cond.initialized "java/lang/System" ∈ wsX0_keep := List.mem_cons_of_mem _ (bi_wsL_law0_r10 _ (List.mem_of_getElem? (i := 23) rfl))
theorem lk_X0_keep_7 : Cond.fieldLink RX0 28 "GloveHouses$Acts" "size" "I" ∈ wsX0_keep := List.mem_cons_of_mem _ (bi_wsL_law0_r21 _ (List.mem_of_getElem? (i := 9) rfl))
theorem lk_X0_keep_8 : Cond.methodLink RX0 31 Lib.Math.min.name ∈ wsX0_keep := List.mem_cons_of_mem _ (bi_wsL_law0_r29 _ (List.mem_of_getElem? (i := 0) rfl))
theorem lk_X0_keep_9 : Cond.static Lib.Math.min.name ∈ wsX0_keep := List.mem_cons_of_mem _ (bi_wsL_law0_r27 _ (List.mem_of_getElem? (i := 18) rfl))
theorem lk_X0_keep_10 : Cond.initialized "java/lang/Math" ∈ wsX0_keep := List.mem_cons_of_mem _ (bi_wsL_law0_r27 _ (List.mem_of_getElem? (i := 19) rfl))
theorem lk_X0_keep_11 : Cond.code Lib.Math.min.name Lib.Math.min.code 2 (some .int) ∈ wsX0_keep := List.mem_cons_of_mem _ (bi_wsL_law0_r27 _ (List.mem_of_getElem? (i := 20) rfl))
set_option maxHeartbeats 4000000 in
set_option maxRecDepth 100000 in
theorem q_X0_keep_0 {p : Program} {l : Launch} {e : Env} {s : State} {m : MethodId} {args : Array Value} {below : List Frame} {meth : Method} {c : Code} {sx : List sx_T} {D : va_G} {cI cZ cO : ClassId} {A : Nat → Prop} (C : Cx p s m args meth c RX0 wsX0_keep cX0_keep 2 none) (K : Kx sx D (tyL cI cZ cO) A s) (a_S : Nat) (a_S_cells : Nat) (a_told : Nat) (a_laws : Nat) (a_acts : Nat) (a_acts_rows : Nat) (S_cells : Nat → Int32) (o_acts_size : Int32) (o_acts_next : Int32) (o_acts_rows : Nat → Int32)    (acts_size : Int32) (acts_next : Int32) (acts_rows : Nat → Int32) {H : Heap} {locs : List Loc} {ls : Array Slot} (hf : b_X0_keep_0 S_cells  acts_size acts_next acts_rows = some (o_acts_size, o_acts_next, o_acts_rows)) (hw : Wo D A s [(oX9 a_S (.ref a_S_cells) (.ref a_told) (.ref a_laws)), (a_S_cells, .inl (cI, 69, .inl S_cells)), (oX0 a_acts (.int acts_size) (.int acts_next) (.ref a_acts_rows)), (a_acts_rows, .inl (cI, 2760, .inl acts_rows))] H locs) (hl : lv_has ls 2 [(0, .ref a_acts), (1, .ref a_S)]) : W p l e rm_X0_keep s m args below meth c H locs 0 0 (MQ below (QcV D A [(oX9 a_S (.ref a_S_cells) (.ref a_told) (.ref a_laws)), (a_S_cells, .inl (cI, 69, .inl S_cells)), (oX0 a_acts (.int o_acts_size) (.int o_acts_next) (.ref a_acts_rows)), (a_acts_rows, .inl (cI, 2760, .inl o_acts_rows))]) args s 0 0 A) (F0 m 0 ls []) := by
  obtain ⟨hx, hb, hml, hown, hts, hr, hlk⟩ := id C
  obtain ⟨hK, hX, hA⟩ := id K
  unfold b_X0_keep_0 at hf
  refine lv_aload_n hx hb dX0_keep_0 rfl (lv_at hl 1 rfl) ?_
  refine va_get (ci := 9) (v := .ref a_S_cells) (C := RX9) (T := TX9) (N := 3) hx hb hts in_X0_keep_X9 hown hK hw.1 0 rfl rfl 0 (by decide) (hts _ lk_X0_keep_0) (fun _ h9 => h9) rfl dX0_keep_1 ?_
  refine lv_iconst (v := (0 : Int32)) hx hb dX0_keep_4 (by decide) ?_
  refine lv_aload_n hx hb dX0_keep_5 rfl (lv_at hl 0 rfl) ?_
  refine va_get (ci := 0) (v := .ref a_acts_rows) (C := RX0) (T := TX0) (N := 3) hx hb hts in_X0_keep_X0 hown hK hw.1 2 rfl rfl 2 (by decide) (hts _ lk_X0_keep_1) (fun _ h9 => h9) rfl dX0_keep_6 ?_
  refine lv_aload_n hx hb dX0_keep_9 rfl (lv_at hl 0 rfl) ?_
  refine va_get (ci := 0) (v := .int acts_next) (C := RX0) (T := TX0) (N := 3) hx hb hts in_X0_keep_X0 hown hK hw.1 2 rfl rfl 1 (by decide) (hts _ lk_X0_keep_2) (fun _ h9 => h9) rfl dX0_keep_10 ?_
  refine lv_bipush (v := (69 : Int32)) hx hb dX0_keep_13 (by decide) ?_
  refine lv_imul hx hb dX0_keep_15 ?_
  refine lv_bipush (v := (69 : Int32)) hx hb dX0_keep_16 (by decide) ?_
  obtain ⟨hc_1, hf⟩ := gd_some hf
  obtain ⟨hc_2, hf⟩ := gd_some hf
  obtain ⟨acts_rows_3, e_acts_rows_3, hf⟩ := bnd_some hf
  refine va_copyi hx hb (hml.trans hl.1.symm) hown (hts _ lk_X0_keep_3) (hts _ lk_X0_keep_4) (hts _ lk_X0_keep_5) (hts _ lk_X0_keep_6) hK hw.1 hw.2.1 hw.2.2 1 3 0 0 rfl rfl rfl rfl rfl (spB_sp hc_1).1 (spB_sp hc_2).1 (spB_sp hc_1).2.1 (spB_sp hc_1).2.2 (spB_sp hc_2).2.2 (fun _ _ => rfl) (Nat.le_of_ble_eq_true rfl) (Nat.le_of_ble_eq_true rfl) dX0_keep_18 (fun H locs hP hD hS => ?_)
  have hw : Wo D A s [(oX9 a_S (.ref a_S_cells) (.ref a_told) (.ref a_laws)), (a_S_cells, .inl (cI, 69, .inl S_cells)), (oX0 a_acts (.int acts_size) (.int acts_next) (.ref a_acts_rows)), (a_acts_rows, .inl (cI, 2760, .inl acts_rows_3))] H locs := by rw [e_acts_rows_3]; exact ⟨hP, hD, hS⟩
  refine lv_aload_n hx hb dX0_keep_21 rfl (lv_at hl 0 rfl) ?_
  refine lv_aload_n hx hb dX0_keep_22 rfl (lv_at hl 0 rfl) ?_
  refine va_get (ci := 0) (v := .int acts_next) (C := RX0) (T := TX0) (N := 3) hx hb hts in_X0_keep_X0 hown hK hw.1 2 rfl rfl 1 (by decide) (hts _ lk_X0_keep_2) (fun _ h9 => h9) rfl dX0_keep_23 ?_
  refine lv_iconst (v := (1 : Int32)) hx hb dX0_keep_26 (by decide) ?_
  refine lv_iadd hx hb dX0_keep_27 ?_
  refine lv_bipush (v := (40 : Int32)) hx hb dX0_keep_28 (by decide) ?_
  refine lv_irem hx hb dX0_keep_30 (by decide) ?_
  obtain ⟨n_4, e_n_4, hf⟩ := bnd_some hf
  refine lv_nmi e_n_4 ?_
  refine va_put (ci := 0) (v := .int n_4) (ty := .int) (C := RX0) (T := TX0) (N := 3) hx hb hts in_X0_keep_X0 tyX0 tyX0_ok nmX0 hown hK hw.1 hw.2.1 hw.2.2 2 rfl rfl 1 (by decide) (hts _ lk_X0_keep_2) (fun _ h9 => h9) rfl (by decide +kernel) rfl rfl (Nat.le_of_ble_eq_true rfl) dX0_keep_31 (fun H locs hP hD hS => ?_)
  have hw : Wo D A s [(oX9 a_S (.ref a_S_cells) (.ref a_told) (.ref a_laws)), (a_S_cells, .inl (cI, 69, .inl S_cells)), (oX0 a_acts (.int acts_size) (.int n_4) (.ref a_acts_rows)), (a_acts_rows, .inl (cI, 2760, .inl acts_rows_3))] H locs := ⟨hP, hD, hS⟩
  refine lv_aload_n hx hb dX0_keep_34 rfl (lv_at hl 0 rfl) ?_
  refine lv_bipush (v := (40 : Int32)) hx hb dX0_keep_35 (by decide) ?_
  refine lv_aload_n hx hb dX0_keep_37 rfl (lv_at hl 0 rfl) ?_
  refine va_get (ci := 0) (v := .int acts_size) (C := RX0) (T := TX0) (N := 3) hx hb hts in_X0_keep_X0 hown hK hw.1 2 rfl rfl 0 (by decide) (hts _ lk_X0_keep_7) (fun _ h9 => h9) rfl dX0_keep_38 ?_
  refine lv_iconst (v := (1 : Int32)) hx hb dX0_keep_41 (by decide) ?_
  refine lv_iadd hx hb dX0_keep_42 ?_
  refine va_mmin hx hb (hml.trans hl.1.symm) hown (hts _ lk_X0_keep_8) (hts _ lk_X0_keep_9) (hts _ lk_X0_keep_10) (hts _ lk_X0_keep_11) (Nat.le_of_ble_eq_true rfl) (Nat.le_of_ble_eq_true rfl) (Nat.zero_le _) (Nat.zero_le _) dX0_keep_43 ?_
  obtain ⟨n_5, e_n_5, hf⟩ := bnd_some hf
  refine lv_nmi e_n_5 ?_
  refine va_put (ci := 0) (v := .int n_5) (ty := .int) (C := RX0) (T := TX0) (N := 3) hx hb hts in_X0_keep_X0 tyX0 tyX0_ok nmX0 hown hK hw.1 hw.2.1 hw.2.2 2 rfl rfl 0 (by decide) (hts _ lk_X0_keep_7) (fun _ h9 => h9) rfl (by decide +kernel) rfl rfl (Nat.le_of_ble_eq_true rfl) dX0_keep_46 (fun H locs hP hD hS => ?_)
  have hw : Wo D A s [(oX9 a_S (.ref a_S_cells) (.ref a_told) (.ref a_laws)), (a_S_cells, .inl (cI, 69, .inl S_cells)), (oX0 a_acts (.int n_5) (.int n_4) (.ref a_acts_rows)), (a_acts_rows, .inl (cI, 2760, .inl acts_rows_3))] H locs := ⟨hP, hD, hS⟩
  cases hf
  exact retV C hw dX0_keep_49
set_option maxHeartbeats 4000000 in
set_option maxRecDepth 100000 in
theorem k_X0_keep {l : Launch} {sx : List sx_T} {D : va_G} {cI cZ cO : ClassId} (a_S : Nat) (a_S_cells : Nat) (a_told : Nat) (a_laws : Nat) (a_acts : Nat) (a_acts_rows : Nat) (S_cells : Nat → Int32) (o_acts_size : Int32) (o_acts_next : Int32) (o_acts_rows : Nat → Int32) (acts_size : Int32) (acts_next : Int32) (acts_rows : Nat → Int32) (hF : f_X0_keep S_cells acts_size acts_next acts_rows = some (o_acts_size, o_acts_next, o_acts_rows)) : CtV l yX0_keep wsX0_keep rm_X0_keep sx D (tyL cI cZ cO) [.ref a_acts, .ref a_S] [(oX9 a_S (.ref a_S_cells) (.ref a_told) (.ref a_laws)), (a_S_cells, .inl (cI, 69, .inl S_cells)), (oX0 a_acts (.int acts_size) (.int acts_next) (.ref a_acts_rows)), (a_acts_rows, .inl (cI, 2760, .inl acts_rows))] [(oX9 a_S (.ref a_S_cells) (.ref a_told) (.ref a_laws)), (a_S_cells, .inl (cI, 69, .inl S_cells)), (oX0 a_acts (.int o_acts_size) (.int o_acts_next) (.ref a_acts_rows)), (a_acts_rows, .inl (cI, 2760, .inl o_acts_rows))] := by
  refine ctV_of (cc := cX0_keep) (ret := none) (maxL := 2) (by decide) rfl (Nat.le_of_ble_eq_true rfl) ?_
  intro p e s m below meth c A ls C K hw hl
  exact q_X0_keep_0 C K a_S a_S_cells a_told a_laws a_acts a_acts_rows S_cells o_acts_size o_acts_next o_acts_rows acts_size acts_next acts_rows hF hw (lv_sub hl [0, 1] rfl)
abbrev rm_X0_takeBack : Room := { frames := 1, cells := 0, slots := 0, locals := 26 }
theorem in_X0_takeBack_X0 : ∀ w ∈ u_ws RX0 TX0 3, w ∈ wsX0_takeBack := fun w h => List.mem_cons_of_mem _ (bi_wsX00 w h)
theorem in_X0_takeBack_X9 : ∀ w ∈ u_ws RX9 TX9 3, w ∈ wsX0_takeBack := fun w h => List.mem_cons_of_mem _ (bi_wsX90 w h)
theorem lk_X0_takeBack_0 : Cond.fieldLink RX0 18 "GloveHouses$Acts" "next" "I" ∈ wsX0_takeBack := List.mem_cons_of_mem _ (bi_wsL_law0_r28 _ (List.mem_of_getElem? (i := 22) rfl))
theorem lk_X0_takeBack_1 : Cond.fieldLink RX0 28 "GloveHouses$Acts" "size" "I" ∈ wsX0_takeBack := List.mem_cons_of_mem _ (bi_wsL_law0_r21 _ (List.mem_of_getElem? (i := 9) rfl))
theorem lk_X0_takeBack_2 : Cond.fieldLink RX0 11 "GloveHouses$Acts" "rows" "[I" ∈ wsX0_takeBack := List.mem_cons_of_mem _ (bi_wsL_law0_r5 _ (List.mem_of_getElem? (i := 21) rfl))
theorem lk_X0_takeBack_3 : Cond.fieldLink RX0 15 "GloveHouses$State" "cells" "[I" ∈ wsX0_takeBack := List.mem_cons_of_mem _ (bi_wsL_law0_r28 _ (List.mem_of_getElem? (i := 21) rfl))
theorem lk_X0_takeBack_4 : Cond.methodLink RX0 22 arraycopyName ∈ wsX0_takeBack := List.mem_cons_of_mem _ (bi_wsL_law0_r28 _ (List.mem_of_getElem? (i := 23) rfl))
theorem lk_X0_takeBack_5 : Cond.native arraycopyName ∈ wsX0_takeBack := List.mem_cons_of_mem _ (bi_wsL_law0_r10 _ (List.mem_of_getElem? (i := 21) rfl))
theorem lk_X0_takeBack_6 : Cond.static arraycopyName ∈ wsX0_takeBack := List.mem_cons_of_mem _ (bi_wsL_law0_r10 _ (List.mem_of_getElem? (i := 22) rfl))
theorem lk_X0_takeBack_7 : Cond.initialized "java/lang/System" ∈ wsX0_takeBack := List.mem_cons_of_mem _ (bi_wsL_law0_r10 _ (List.mem_of_getElem? (i := 23) rfl))
set_option maxHeartbeats 4000000 in
set_option maxRecDepth 100000 in
theorem q_X0_takeBack_0 {p : Program} {l : Launch} {e : Env} {s : State} {m : MethodId} {args : Array Value} {below : List Frame} {meth : Method} {c : Code} {sx : List sx_T} {D : va_G} {cI cZ cO : ClassId} {A : Nat → Prop} (C : Cx p s m args meth c RX0 wsX0_takeBack cX0_takeBack 2 none) (K : Kx sx D (tyL cI cZ cO) A s) (a_S : Nat) (a_S_cells : Nat) (a_told : Nat) (a_laws : Nat) (a_acts : Nat) (a_acts_rows : Nat) (acts_rows : Nat → Int32) (o_S_cells : Nat → Int32) (o_acts_size : Int32) (o_acts_next : Int32)    (S_cells : Nat → Int32) (acts_size : Int32) (acts_next : Int32) {H : Heap} {locs : List Loc} {ls : Array Slot} (hf : b_X0_takeBack_0 acts_rows  S_cells acts_size acts_next = some (o_S_cells, o_acts_size, o_acts_next)) (hw : Wo D A s [(oX9 a_S (.ref a_S_cells) (.ref a_told) (.ref a_laws)), (a_S_cells, .inl (cI, 69, .inl S_cells)), (oX0 a_acts (.int acts_size) (.int acts_next) (.ref a_acts_rows)), (a_acts_rows, .inl (cI, 2760, .inl acts_rows))] H locs) (hl : lv_has ls 2 [(0, .ref a_acts), (1, .ref a_S)]) : W p l e rm_X0_takeBack s m args below meth c H locs 0 0 (MQ below (QcV D A [(oX9 a_S (.ref a_S_cells) (.ref a_told) (.ref a_laws)), (a_S_cells, .inl (cI, 69, .inl o_S_cells)), (oX0 a_acts (.int o_acts_size) (.int o_acts_next) (.ref a_acts_rows)), (a_acts_rows, .inl (cI, 2760, .inl acts_rows))]) args s 0 0 A) (F0 m 0 ls []) := by
  obtain ⟨hx, hb, hml, hown, hts, hr, hlk⟩ := id C
  obtain ⟨hK, hX, hA⟩ := id K
  unfold b_X0_takeBack_0 at hf
  refine lv_aload_n hx hb dX0_takeBack_0 rfl (lv_at hl 0 rfl) ?_
  refine lv_aload_n hx hb dX0_takeBack_1 rfl (lv_at hl 0 rfl) ?_
  refine va_get (ci := 0) (v := .int acts_next) (C := RX0) (T := TX0) (N := 3) hx hb hts in_X0_takeBack_X0 hown hK hw.1 2 rfl rfl 1 (by decide) (hts _ lk_X0_takeBack_0) (fun _ h9 => h9) rfl dX0_takeBack_2 ?_
  refine lv_bipush (v := (40 : Int32)) hx hb dX0_takeBack_5 (by decide) ?_
  refine lv_iadd hx hb dX0_takeBack_7 ?_
  refine lv_iconst (v := (1 : Int32)) hx hb dX0_takeBack_8 (by decide) ?_
  refine lv_isub hx hb dX0_takeBack_9 ?_
  refine lv_bipush (v := (40 : Int32)) hx hb dX0_takeBack_10 (by decide) ?_
  refine lv_irem hx hb dX0_takeBack_12 (by decide) ?_
  obtain ⟨n_1, e_n_1, hf⟩ := bnd_some hf
  refine lv_nmi e_n_1 ?_
  refine va_put (ci := 0) (v := .int n_1) (ty := .int) (C := RX0) (T := TX0) (N := 3) hx hb hts in_X0_takeBack_X0 tyX0 tyX0_ok nmX0 hown hK hw.1 hw.2.1 hw.2.2 2 rfl rfl 1 (by decide) (hts _ lk_X0_takeBack_0) (fun _ h9 => h9) rfl (by decide +kernel) rfl rfl (Nat.le_of_ble_eq_true rfl) dX0_takeBack_13 (fun H locs hP hD hS => ?_)
  have hw : Wo D A s [(oX9 a_S (.ref a_S_cells) (.ref a_told) (.ref a_laws)), (a_S_cells, .inl (cI, 69, .inl S_cells)), (oX0 a_acts (.int acts_size) (.int n_1) (.ref a_acts_rows)), (a_acts_rows, .inl (cI, 2760, .inl acts_rows))] H locs := ⟨hP, hD, hS⟩
  refine lv_aload_n hx hb dX0_takeBack_16 rfl (lv_at hl 0 rfl) ?_
  refine lv_dup hx hb dX0_takeBack_17 rfl ?_
  refine va_get (ci := 0) (v := .int acts_size) (C := RX0) (T := TX0) (N := 3) hx hb hts in_X0_takeBack_X0 hown hK hw.1 2 rfl rfl 0 (by decide) (hts _ lk_X0_takeBack_1) (fun _ h9 => h9) rfl dX0_takeBack_18 ?_
  refine lv_iconst (v := (1 : Int32)) hx hb dX0_takeBack_21 (by decide) ?_
  refine lv_isub hx hb dX0_takeBack_22 ?_
  obtain ⟨size_2, e_size_2, hf⟩ := bnd_some hf
  refine lv_nmi e_size_2 ?_
  refine va_put (ci := 0) (v := .int size_2) (ty := .int) (C := RX0) (T := TX0) (N := 3) hx hb hts in_X0_takeBack_X0 tyX0 tyX0_ok nmX0 hown hK hw.1 hw.2.1 hw.2.2 2 rfl rfl 0 (by decide) (hts _ lk_X0_takeBack_1) (fun _ h9 => h9) rfl (by decide +kernel) rfl rfl (Nat.le_of_ble_eq_true rfl) dX0_takeBack_23 (fun H locs hP hD hS => ?_)
  have hw : Wo D A s [(oX9 a_S (.ref a_S_cells) (.ref a_told) (.ref a_laws)), (a_S_cells, .inl (cI, 69, .inl S_cells)), (oX0 a_acts (.int size_2) (.int n_1) (.ref a_acts_rows)), (a_acts_rows, .inl (cI, 2760, .inl acts_rows))] H locs := ⟨hP, hD, hS⟩
  refine lv_aload_n hx hb dX0_takeBack_26 rfl (lv_at hl 0 rfl) ?_
  refine va_get (ci := 0) (v := .ref a_acts_rows) (C := RX0) (T := TX0) (N := 3) hx hb hts in_X0_takeBack_X0 hown hK hw.1 2 rfl rfl 2 (by decide) (hts _ lk_X0_takeBack_2) (fun _ h9 => h9) rfl dX0_takeBack_27 ?_
  refine lv_aload_n hx hb dX0_takeBack_30 rfl (lv_at hl 0 rfl) ?_
  refine va_get (ci := 0) (v := .int n_1) (C := RX0) (T := TX0) (N := 3) hx hb hts in_X0_takeBack_X0 hown hK hw.1 2 rfl rfl 1 (by decide) (hts _ lk_X0_takeBack_0) (fun _ h9 => h9) rfl dX0_takeBack_31 ?_
  refine lv_bipush (v := (69 : Int32)) hx hb dX0_takeBack_34 (by decide) ?_
  refine lv_imul hx hb dX0_takeBack_36 ?_
  refine lv_aload_n hx hb dX0_takeBack_37 rfl (lv_at hl 1 rfl) ?_
  refine va_get (ci := 9) (v := .ref a_S_cells) (C := RX9) (T := TX9) (N := 3) hx hb hts in_X0_takeBack_X9 hown hK hw.1 0 rfl rfl 0 (by decide) (hts _ lk_X0_takeBack_3) (fun _ h9 => h9) rfl dX0_takeBack_38 ?_
  refine lv_iconst (v := (0 : Int32)) hx hb dX0_takeBack_41 (by decide) ?_
  refine lv_bipush (v := (69 : Int32)) hx hb dX0_takeBack_42 (by decide) ?_
  obtain ⟨hc_3, hf⟩ := gd_some hf
  obtain ⟨hc_4, hf⟩ := gd_some hf
  obtain ⟨S_cells_5, e_S_cells_5, hf⟩ := bnd_some hf
  refine va_copyi hx hb (hml.trans hl.1.symm) hown (hts _ lk_X0_takeBack_4) (hts _ lk_X0_takeBack_5) (hts _ lk_X0_takeBack_6) (hts _ lk_X0_takeBack_7) hK hw.1 hw.2.1 hw.2.2 3 1 0 0 rfl rfl rfl rfl rfl (spB_sp hc_3).1 (spB_sp hc_4).1 (spB_sp hc_3).2.1 (spB_sp hc_3).2.2 (spB_sp hc_4).2.2 (fun _ _ => rfl) (Nat.le_of_ble_eq_true rfl) (Nat.le_of_ble_eq_true rfl) dX0_takeBack_44 (fun H locs hP hD hS => ?_)
  have hw : Wo D A s [(oX9 a_S (.ref a_S_cells) (.ref a_told) (.ref a_laws)), (a_S_cells, .inl (cI, 69, .inl S_cells_5)), (oX0 a_acts (.int size_2) (.int n_1) (.ref a_acts_rows)), (a_acts_rows, .inl (cI, 2760, .inl acts_rows))] H locs := by rw [e_S_cells_5]; exact ⟨hP, hD, hS⟩
  cases hf
  exact retV C hw dX0_takeBack_47
set_option maxHeartbeats 4000000 in
set_option maxRecDepth 100000 in
theorem k_X0_takeBack {l : Launch} {sx : List sx_T} {D : va_G} {cI cZ cO : ClassId} (a_S : Nat) (a_S_cells : Nat) (a_told : Nat) (a_laws : Nat) (a_acts : Nat) (a_acts_rows : Nat) (acts_rows : Nat → Int32) (o_S_cells : Nat → Int32) (o_acts_size : Int32) (o_acts_next : Int32) (S_cells : Nat → Int32) (acts_size : Int32) (acts_next : Int32) (hF : f_X0_takeBack acts_rows S_cells acts_size acts_next = some (o_S_cells, o_acts_size, o_acts_next)) : CtV l yX0_takeBack wsX0_takeBack rm_X0_takeBack sx D (tyL cI cZ cO) [.ref a_acts, .ref a_S] [(oX9 a_S (.ref a_S_cells) (.ref a_told) (.ref a_laws)), (a_S_cells, .inl (cI, 69, .inl S_cells)), (oX0 a_acts (.int acts_size) (.int acts_next) (.ref a_acts_rows)), (a_acts_rows, .inl (cI, 2760, .inl acts_rows))] [(oX9 a_S (.ref a_S_cells) (.ref a_told) (.ref a_laws)), (a_S_cells, .inl (cI, 69, .inl o_S_cells)), (oX0 a_acts (.int o_acts_size) (.int o_acts_next) (.ref a_acts_rows)), (a_acts_rows, .inl (cI, 2760, .inl acts_rows))] := by
  refine ctV_of (cc := cX0_takeBack) (ret := none) (maxL := 2) (by decide) rfl (Nat.le_of_ble_eq_true rfl) ?_
  intro p e s m below meth c A ls C K hw hl
  exact q_X0_takeBack_0 C K a_S a_S_cells a_told a_laws a_acts a_acts_rows acts_rows o_S_cells o_acts_size o_acts_next S_cells acts_size acts_next hF hw (lv_sub hl [0, 1] rfl)
