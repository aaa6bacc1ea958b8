abbrev rm_X3_write : Room := { frames := 0, cells := 0, slots := 0, locals := 0 }
theorem in_X3_write_X3 : ∀ w ∈ u_ws RX3 TX3 1, w ∈ wsX3_write := fun w h => List.mem_cons_of_mem _ (bi_wsX30 w h)
theorem lk_X3_write_0 : Cond.fieldLink RX3 9 "GloveHouses$LogBook" "rows" "[I" ∈ wsX3_write := List.mem_cons_of_mem _ (bi_wsL_law0_r5 _ (List.mem_of_getElem? (i := 17) rfl))
set_option maxHeartbeats 4000000 in
set_option maxRecDepth 100000 in
theorem q_X3_write_0 {p : Program} {l : Launch} {e : Env} {s : State} {m : MethodId} {args : Array Value} {below : List Frame} {meth : Method} {c : Code} {sx : List sx_T} {D : va_G} {cI cZ cO : ClassId} {A : Nat → Prop} (C : Cx p s m args meth c RX3 wsX3_write cX3_write 6 none) (K : Kx sx D (tyL cI cZ cO) A s) (a_B : Nat) (a_B_rows : Nat) (o_B_rows : Nat → Int32)    (B_rows : Nat → Int32) (v1 : Int32) (v2 : Int32) (v3 : Int32) (v4 : Int32) {H : Heap} {locs : List Loc} {ls : Array Slot} (hf : b_X3_write_0   B_rows v1 v2 v3 v4 = some o_B_rows) (hw : Wo D A s [(oX3 a_B (.ref a_B_rows)), (a_B_rows, .inl (cI, 384, .inl B_rows))] H locs) (hl : lv_has ls 6 [(0, .ref a_B), (1, .int v1), (2, .int v2), (3, .int v3), (4, .int v4)]) : W p l e rm_X3_write s m args below meth c H locs 0 0 (MQ below (QcV D A [(oX3 a_B (.ref a_B_rows)), (a_B_rows, .inl (cI, 384, .inl o_B_rows))]) args s 0 0 A) (F0 m 0 ls []) := by
  obtain ⟨hx, hb, hml, hown, hts, hr, hlk⟩ := id C
  obtain ⟨hK, hX, hA⟩ := id K
  unfold b_X3_write_0 at hf
  refine lv_iload_n hx hb dX3_write_0 rfl (lv_at hl 1 rfl) ?_
  refine lv_bipush (v := (127 : Int32)) hx hb dX3_write_1 (by decide) ?_
  refine lv_iand hx hb dX3_write_3 ?_
  refine lv_iconst (v := (3 : Int32)) hx hb dX3_write_4 (by decide) ?_
  refine lv_imul hx hb dX3_write_5 ?_
  obtain ⟨v5_1, e_v5_1, hf⟩ := bnd_some hf
  refine lv_nmi e_v5_1 ?_
  refine lv_istore (lv' := [(5, .int v5_1), (0, .ref a_B), (1, .int v1), (2, .int v2), (3, .int v3), (4, .int v4)]) hx hb dX3_write_6 hl (by decide) rfl (fun ls hl => ?_)
  refine lv_aload_n hx hb dX3_write_8 rfl (lv_at hl 1 rfl) ?_
  refine va_get (ci := 3) (v := .ref a_B_rows) (C := RX3) (T := TX3) (N := 1) hx hb hts in_X3_write_X3 hown hK hw.1 0 rfl rfl 0 (by decide) (hts _ lk_X3_write_0) (fun _ h9 => h9) rfl dX3_write_9 ?_
  refine lv_iload hx hb dX3_write_12 (lv_at hl 0 rfl) ?_
  refine lv_iload_n hx hb dX3_write_14 rfl (lv_at hl 3 rfl) ?_
  obtain ⟨hc_2, hf⟩ := gd_some hf
  obtain ⟨B_rows_3, e_B_rows_3, hf⟩ := bnd_some hf
  refine va_iast hx hb hK hw.1 hw.2.1 hw.2.2 1 0 rfl rfl (inB_in hc_2) dX3_write_15 (fun H locs hP hD hS => ?_)
  have hw : Wo D A s [(oX3 a_B (.ref a_B_rows)), (a_B_rows, .inl (cI, 384, .inl B_rows_3))] H locs := by rw [e_B_rows_3]; exact ⟨hP, hD, hS⟩
  refine lv_aload_n hx hb dX3_write_16 rfl (lv_at hl 1 rfl) ?_
  refine va_get (ci := 3) (v := .ref a_B_rows) (C := RX3) (T := TX3) (N := 1) hx hb hts in_X3_write_X3 hown hK hw.1 0 rfl rfl 0 (by decide) (hts _ lk_X3_write_0) (fun _ h9 => h9) rfl dX3_write_17 ?_
  refine lv_iload hx hb dX3_write_20 (lv_at hl 0 rfl) ?_
  refine lv_iconst (v := (1 : Int32)) hx hb dX3_write_22 (by decide) ?_
  refine lv_iadd hx hb dX3_write_23 ?_
  refine lv_iload_n hx hb dX3_write_24 rfl (lv_at hl 4 rfl) ?_
  obtain ⟨hc_4, hf⟩ := gd_some hf
  obtain ⟨B_rows_5, e_B_rows_5, hf⟩ := bnd_some hf
  refine va_iast hx hb hK hw.1 hw.2.1 hw.2.2 1 0 rfl rfl (inB_in hc_4) dX3_write_25 (fun H locs hP hD hS => ?_)
  have hw : Wo D A s [(oX3 a_B (.ref a_B_rows)), (a_B_rows, .inl (cI, 384, .inl B_rows_5))] H locs := by rw [e_B_rows_5]; exact ⟨hP, hD, hS⟩
  refine lv_aload_n hx hb dX3_write_26 rfl (lv_at hl 1 rfl) ?_
  refine va_get (ci := 3) (v := .ref a_B_rows) (C := RX3) (T := TX3) (N := 1) hx hb hts in_X3_write_X3 hown hK hw.1 0 rfl rfl 0 (by decide) (hts _ lk_X3_write_0) (fun _ h9 => h9) rfl dX3_write_27 ?_
  refine lv_iload hx hb dX3_write_30 (lv_at hl 0 rfl) ?_
  refine lv_iconst (v := (2 : Int32)) hx hb dX3_write_32 (by decide) ?_
  refine lv_iadd hx hb dX3_write_33 ?_
  refine lv_iload hx hb dX3_write_34 (lv_at hl 5 rfl) ?_
  obtain ⟨hc_6, hf⟩ := gd_some hf
  obtain ⟨B_rows_7, e_B_rows_7, hf⟩ := bnd_some hf
  refine va_iast hx hb hK hw.1 hw.2.1 hw.2.2 1 0 rfl rfl (inB_in hc_6) dX3_write_36 (fun H locs hP hD hS => ?_)
  have hw : Wo D A s [(oX3 a_B (.ref a_B_rows)), (a_B_rows, .inl (cI, 384, .inl B_rows_7))] H locs := by rw [e_B_rows_7]; exact ⟨hP, hD, hS⟩
  cases hf
  exact retV C hw dX3_write_37
set_option maxHeartbeats 4000000 in
set_option maxRecDepth 100000 in
theorem k_X3_write {l : Launch} {sx : List sx_T} {D : va_G} {cI cZ cO : ClassId} (a_B : Nat) (a_B_rows : Nat) (o_B_rows : Nat → Int32) (B_rows : Nat → Int32) (p1 : Int32) (p2 : Int32) (p3 : Int32) (p4 : Int32) (hF : f_X3_write B_rows p1 p2 p3 p4 = some o_B_rows) : CtV l yX3_write wsX3_write rm_X3_write sx D (tyL cI cZ cO) [.ref a_B, .int p1, .int p2, .int p3, .int p4] [(oX3 a_B (.ref a_B_rows)), (a_B_rows, .inl (cI, 384, .inl B_rows))] [(oX3 a_B (.ref a_B_rows)), (a_B_rows, .inl (cI, 384, .inl o_B_rows))] := by
  refine ctV_of (cc := cX3_write) (ret := none) (maxL := 6) (by decide) rfl (Nat.le_of_ble_eq_true rfl) ?_
  intro p e s m below meth c A ls C K hw hl
  exact q_X3_write_0 C K a_B a_B_rows o_B_rows B_rows p1 p2 p3 p4 hF hw (lv_sub hl [0, 1, 2, 3, 4] rfl)
abbrev rm_X3_lengthOn : Room := { frames := 1, cells := 0, slots := 0, locals := 23 }
theorem lk_X3_lengthOn_0 : Cond.methodLink RX3 13 Lib.Math.min.name ∈ wsX3_lengthOn := List.mem_cons_of_mem _ (bi_wsL_law0_r42 _ (List.mem_of_getElem? (i := 6) rfl))
theorem lk_X3_lengthOn_1 : Cond.static Lib.Math.min.name ∈ wsX3_lengthOn := List.mem_cons_of_mem _ (bi_wsL_law0_r27 _ (List.mem_of_getElem? (i := 18) rfl))
theorem lk_X3_lengthOn_2 : Cond.initialized "java/lang/Math" ∈ wsX3_lengthOn := List.mem_cons_of_mem _ (bi_wsL_law0_r27 _ (List.mem_of_getElem? (i := 19) rfl))
theorem lk_X3_lengthOn_3 : Cond.code Lib.Math.min.name Lib.Math.min.code 2 (some .int) ∈ wsX3_lengthOn := List.mem_cons_of_mem _ (bi_wsL_law0_r27 _ (List.mem_of_getElem? (i := 20) rfl))
set_option maxHeartbeats 4000000 in
set_option maxRecDepth 100000 in
theorem q_X3_lengthOn_0 {p : Program} {l : Launch} {e : Env} {s : State} {m : MethodId} {args : Array Value} {below : List Frame} {meth : Method} {c : Code} {sx : List sx_T} {D : va_G} {cI cZ cO : ClassId} {A : Nat → Prop} (C : Cx p s m args meth c RX3 wsX3_lengthOn cX3_lengthOn 1 (some .int)) (K : Kx sx D (tyL cI cZ cO) A s) (r0 : Int32)    (v0 : Int32) {H : Heap} {locs : List Loc} {ls : Array Slot} (hf : b_X3_lengthOn_0   v0 = some r0) (hw : Wo D A s [] H locs) (hl : lv_has ls 1 [(0, .int v0)]) : W p l e rm_X3_lengthOn s m args below meth c H locs 0 0 (MQ below (QcI D A r0 []) args s 0 0 A) (F0 m 0 ls []) := by
  obtain ⟨hx, hb, hml, hown, hts, hr, hlk⟩ := id C
  obtain ⟨hK, hX, hA⟩ := id K
  unfold b_X3_lengthOn_0 at hf
  refine lv_bipush (v := (60 : Int32)) hx hb dX3_lengthOn_0 (by decide) ?_
  refine lv_iload_n hx hb dX3_lengthOn_2 rfl (lv_at hl 0 rfl) ?_
  refine va_mmin hx hb (hml.trans hl.1.symm) hown (hts _ lk_X3_lengthOn_0) (hts _ lk_X3_lengthOn_1) (hts _ lk_X3_lengthOn_2) (hts _ lk_X3_lengthOn_3) (Nat.le_of_ble_eq_true rfl) (Nat.le_of_ble_eq_true rfl) (Nat.zero_le _) (Nat.zero_le _) dX3_lengthOn_3 ?_
  obtain ⟨n_1, e_n_1, hf⟩ := bnd_some hf
  refine lv_nmi e_n_1 ?_
  cases hf
  exact retI C hw dX3_lengthOn_6 rfl
set_option maxHeartbeats 4000000 in
set_option maxRecDepth 100000 in
theorem k_X3_lengthOn {l : Launch} {sx : List sx_T} {D : va_G} {cI cZ cO : ClassId} (r0 : Int32) (p1 : Int32) (hF : f_X3_lengthOn p1 = some r0) : CtI l yX3_lengthOn wsX3_lengthOn rm_X3_lengthOn sx D (tyL cI cZ cO) [.int p1] [] r0 [] := by
  refine ctI_of (cc := cX3_lengthOn) (ret := (some .int)) (maxL := 1) (by decide) rfl (Nat.le_of_ble_eq_true rfl) ?_
  intro p e s m below meth c A ls C K hw hl
  exact q_X3_lengthOn_0 C K r0 p1 hF hw (lv_sub hl [0] rfl)
abbrev rm_X3_read : Room := { frames := 0, cells := 0, slots := 0, locals := 0 }
theorem in_X3_read_X3 : ∀ w ∈ u_ws RX3 TX3 1, w ∈ wsX3_read := fun w h => List.mem_cons_of_mem _ (bi_wsX30 w h)
theorem lk_X3_read_0 : Cond.fieldLink RX3 9 "GloveHouses$LogBook" "rows" "[I" ∈ wsX3_read := List.mem_cons_of_mem _ (bi_wsL_law0_r5 _ (List.mem_of_getElem? (i := 17) rfl))
set_option maxHeartbeats 4000000 in
set_option maxRecDepth 100000 in
theorem q_X3_read_0 {p : Program} {l : Launch} {e : Env} {s : State} {m : MethodId} {args : Array Value} {below : List Frame} {meth : Method} {c : Code} {sx : List sx_T} {D : va_G} {cI cZ cO : ClassId} {A : Nat → Prop} (C : Cx p s m args meth c RX3 wsX3_read cX3_read 3 (some .int)) (K : Kx sx D (tyL cI cZ cO) A s) (a_B : Nat) (a_B_rows : Nat) (B_rows : Nat → Int32) (r0 : Int32)    (v1 : Int32) (v2 : Int32) {H : Heap} {locs : List Loc} {ls : Array Slot} (hf : b_X3_read_0 B_rows  v1 v2 = some r0) (hw : Wo D A s [(oX3 a_B (.ref a_B_rows)), (a_B_rows, .inl (cI, 384, .inl B_rows))] H locs) (hl : lv_has ls 3 [(0, .ref a_B), (1, .int v1), (2, .int v2)]) : W p l e rm_X3_read s m args below meth c H locs 0 0 (MQ below (QcI D A r0 [(oX3 a_B (.ref a_B_rows)), (a_B_rows, .inl (cI, 384, .inl B_rows))]) args s 0 0 A) (F0 m 0 ls []) := by
  obtain ⟨hx, hb, hml, hown, hts, hr, hlk⟩ := id C
  obtain ⟨hK, hX, hA⟩ := id K
  unfold b_X3_read_0 at hf
  refine lv_aload_n hx hb dX3_read_0 rfl (lv_at hl 0 rfl) ?_
  refine va_get (ci := 3) (v := .ref a_B_rows) (C := RX3) (T := TX3) (N := 1) hx hb hts in_X3_read_X3 hown hK hw.1 0 rfl rfl 0 (by decide) (hts _ lk_X3_read_0) (fun _ h9 => h9) rfl dX3_read_1 ?_
  refine lv_iload_n hx hb dX3_read_4 rfl (lv_at hl 1 rfl) ?_
  refine lv_bipush (v := (127 : Int32)) hx hb dX3_read_5 (by decide) ?_
  refine lv_iand hx hb dX3_read_7 ?_
  refine lv_iconst (v := (3 : Int32)) hx hb dX3_read_8 (by decide) ?_
  refine lv_imul hx hb dX3_read_9 ?_
  refine lv_iload_n hx hb dX3_read_10 rfl (lv_at hl 2 rfl) ?_
  refine lv_iadd hx hb dX3_read_11 ?_
  obtain ⟨i_1, e_i_1, hf⟩ := bnd_some hf
  refine lv_nmi e_i_1 ?_
  obtain ⟨hc_2, hf⟩ := gd_some hf
  refine va_iald hx hb hK hw.1 1 0 rfl rfl (inB_in hc_2) dX3_read_12 ?_
  cases hf
  exact retI C hw dX3_read_13 rfl
set_option maxHeartbeats 4000000 in
set_option maxRecDepth 100000 in
theorem k_X3_read {l : Launch} {sx : List sx_T} {D : va_G} {cI cZ cO : ClassId} (a_B : Nat) (a_B_rows : Nat) (B_rows : Nat → Int32) (r0 : Int32) (p1 : Int32) (p2 : Int32) (hF : f_X3_read B_rows p1 p2 = some r0) : CtI l yX3_read wsX3_read rm_X3_read sx D (tyL cI cZ cO) [.ref a_B, .int p1, .int p2] [(oX3 a_B (.ref a_B_rows)), (a_B_rows, .inl (cI, 384, .inl B_rows))] r0 [(oX3 a_B (.ref a_B_rows)), (a_B_rows, .inl (cI, 384, .inl B_rows))] := by
  refine ctI_of (cc := cX3_read) (ret := (some .int)) (maxL := 3) (by decide) rfl (Nat.le_of_ble_eq_true rfl) ?_
  intro p e s m below meth c A ls C K hw hl
  exact q_X3_read_0 C K a_B a_B_rows B_rows r0 p1 p2 hF hw (lv_sub hl [0, 1, 2] rfl)
abbrev rm_X3_copyFrom : Room := { frames := 1, cells := 0, slots := 0, locals := 26 }
theorem in_X3_copyFrom_X3 : ∀ w ∈ u_ws RX3 TX3 1, w ∈ wsX3_copyFrom := fun w h => List.mem_cons_of_mem _ (bi_wsX30 w h)
theorem lk_X3_copyFrom_0 : Cond.fieldLink RX3 9 "GloveHouses$LogBook" "rows" "[I" ∈ wsX3_copyFrom := List.mem_cons_of_mem _ (bi_wsL_law0_r5 _ (List.mem_of_getElem? (i := 17) rfl))
theorem lk_X3_copyFrom_1 : Cond.methodLink RX3 19 arraycopyName ∈ wsX3_copyFrom := List.mem_cons_of_mem _ (bi_wsL_law0_r59 _ (List.mem_of_getElem? (i := 0) rfl))
theorem lk_X3_copyFrom_2 : Cond.native arraycopyName ∈ wsX3_copyFrom := List.mem_cons_of_mem _ (bi_wsL_law0_r10 _ (List.mem_of_getElem? (i := 21) rfl))
theorem lk_X3_copyFrom_3 : Cond.static arraycopyName ∈ wsX3_copyFrom := List.mem_cons_of_mem _ (bi_wsL_law0_r10 _ (List.mem_of_getElem? (i := 22) rfl))
theorem lk_X3_copyFrom_4 : Cond.initialized "java/lang/System" ∈ wsX3_copyFrom := List.mem_cons_of_mem _ (bi_wsL_law0_r10 _ (List.mem_of_getElem? (i := 23) rfl))
set_option maxHeartbeats 4000000 in
set_option maxRecDepth 100000 in
theorem q_X3_copyFrom_0 {p : Program} {l : Launch} {e : Env} {s : State} {m : MethodId} {args : Array Value} {below : List Frame} {meth : Method} {c : Code} {sx : List sx_T} {D : va_G} {cI cZ cO : ClassId} {A : Nat → Prop} (C : Cx p s m args meth c RX3 wsX3_copyFrom cX3_copyFrom 2 none) (K : Kx sx D (tyL cI cZ cO) A s) (a_B : Nat) (a_B_rows : Nat) (a_BO : Nat) (a_BO_rows : Nat) (BO_rows : Nat → Int32) (o_B_rows : Nat → Int32)    (B_rows : Nat → Int32) {H : Heap} {locs : List Loc} {ls : Array Slot} (hf : b_X3_copyFrom_0 BO_rows  B_rows = some o_B_rows) (hw : Wo D A s [(oX3 a_B (.ref a_B_rows)), (a_B_rows, .inl (cI, 384, .inl B_rows)), (oX3 a_BO (.ref a_BO_rows)), (a_BO_rows, .inl (cI, 384, .inl BO_rows))] H locs) (hl : lv_has ls 2 [(0, .ref a_B), (1, .ref a_BO)]) : W p l e rm_X3_copyFrom s m args below meth c H locs 0 0 (MQ below (QcV D A [(oX3 a_B (.ref a_B_rows)), (a_B_rows, .inl (cI, 384, .inl o_B_rows)), (oX3 a_BO (.ref a_BO_rows)), (a_BO_rows, .inl (cI, 384, .inl BO_rows))]) args s 0 0 A) (F0 m 0 ls []) := by
  obtain ⟨hx, hb, hml, hown, hts, hr, hlk⟩ := id C
  obtain ⟨hK, hX, hA⟩ := id K
  unfold b_X3_copyFrom_0 at hf
  refine lv_aload_n hx hb dX3_copyFrom_0 rfl (lv_at hl 1 rfl) ?_
  refine va_get (ci := 3) (v := .ref a_BO_rows) (C := RX3) (T := TX3) (N := 1) hx hb hts in_X3_copyFrom_X3 hown hK hw.1 2 rfl rfl 0 (by decide) (hts _ lk_X3_copyFrom_0) (fun _ h9 => h9) rfl dX3_copyFrom_1 ?_
  refine lv_iconst (v := (0 : Int32)) hx hb dX3_copyFrom_4 (by decide) ?_
  refine lv_aload_n hx hb dX3_copyFrom_5 rfl (lv_at hl 0 rfl) ?_
  refine va_get (ci := 3) (v := .ref a_B_rows) (C := RX3) (T := TX3) (N := 1) hx hb hts in_X3_copyFrom_X3 hown hK hw.1 0 rfl rfl 0 (by decide) (hts _ lk_X3_copyFrom_0) (fun _ h9 => h9) rfl dX3_copyFrom_6 ?_
  refine lv_iconst (v := (0 : Int32)) hx hb dX3_copyFrom_9 (by decide) ?_
  refine lv_sipush (v := (384 : Int32)) hx hb dX3_copyFrom_10 (by decide) ?_
  obtain ⟨hc_1, hf⟩ := gd_some hf
  obtain ⟨hc_2, hf⟩ := gd_some hf
  obtain ⟨B_rows_3, e_B_rows_3, hf⟩ := bnd_some hf
  refine va_copyi hx hb (hml.trans hl.1.symm) hown (hts _ lk_X3_copyFrom_1) (hts _ lk_X3_copyFrom_2) (hts _ lk_X3_copyFrom_3) (hts _ lk_X3_copyFrom_4) hK hw.1 hw.2.1 hw.2.2 3 1 0 0 rfl rfl rfl rfl rfl (spB_sp hc_1).1 (spB_sp hc_2).1 (spB_sp hc_1).2.1 (spB_sp hc_1).2.2 (spB_sp hc_2).2.2 (fun _ _ => rfl) (Nat.le_of_ble_eq_true rfl) (Nat.le_of_ble_eq_true rfl) dX3_copyFrom_13 (fun H locs hP hD hS => ?_)
  have hw : Wo D A s [(oX3 a_B (.ref a_B_rows)), (a_B_rows, .inl (cI, 384, .inl B_rows_3)), (oX3 a_BO (.ref a_BO_rows)), (a_BO_rows, .inl (cI, 384, .inl BO_rows))] H locs := by rw [e_B_rows_3]; exact ⟨hP, hD, hS⟩
  cases hf
  exact retV C hw dX3_copyFrom_16
set_option maxHeartbeats 4000000 in
set_option maxRecDepth 100000 in
theorem k_X3_copyFrom {l : Launch} {sx : List sx_T} {D : va_G} {cI cZ cO : ClassId} (a_B : Nat) (a_B_rows : Nat) (a_BO : Nat) (a_BO_rows : Nat) (BO_rows : Nat → Int32) (o_B_rows : Nat → Int32) (B_rows : Nat → Int32) (hF : f_X3_copyFrom BO_rows B_rows = some o_B_rows) : CtV l yX3_copyFrom wsX3_copyFrom rm_X3_copyFrom sx D (tyL cI cZ cO) [.ref a_B, .ref a_BO] [(oX3 a_B (.ref a_B_rows)), (a_B_rows, .inl (cI, 384, .inl B_rows)), (oX3 a_BO (.ref a_BO_rows)), (a_BO_rows, .inl (cI, 384, .inl BO_rows))] [(oX3 a_B (.ref a_B_rows)), (a_B_rows, .inl (cI, 384, .inl o_B_rows)), (oX3 a_BO (.ref a_BO_rows)), (a_BO_rows, .inl (cI, 384, .inl BO_rows))] := by
  refine ctV_of (cc := cX3_copyFrom) (ret := none) (maxL := 2) (by decide) rfl (Nat.le_of_ble_eq_true rfl) ?_
  intro p e s m below meth c A ls C K hw hl
  exact q_X3_copyFrom_0 C K a_B a_B_rows a_BO a_BO_rows BO_rows o_B_rows B_rows hF hw (lv_sub hl [0, 1] rfl)
