abbrev rm_X10_bytesOf : Room := { frames := 0, cells := 0, slots := 0, locals := 0 }
set_option maxHeartbeats 4000000 in
set_option maxRecDepth 100000 in
theorem q_X10_bytesOf_22 {p : Program} {l : Launch} {e : Env} {s : State} {m : MethodId} {args : Array Value} {below : List Frame} {meth : Method} {c : Code} {sx : List sx_T} {D : va_G} {cI cZ cO : ClassId} {A : Nat → Prop} (C : Cx p s m args meth c RX10 wsX10_bytesOf cX10_bytesOf 3 (some .int)) (K : Kx sx D (tyL cI cZ cO) A s) (r0 : Int32)   (k5 : Int32 → Int32 → Int32 → Option (Int32)) (hk5 : ∀ (v0 : Int32) (v1 : Int32) (v2 : Int32) (H : Heap) (locs : List Loc) (ls : Array Slot), k5 v0 v1 v2 = some r0 → Wo D A s [] H locs → lv_has ls 3 [(0, .int v0), (1, .int v1), (2, .int v2)] → W p l e rm_X10_bytesOf s m args below meth c H locs 0 0 (MQ below (QcI D A r0 []) args s 0 0 A) (F0 m 5 ls [])) (v0 : Int32) (v1 : Int32) (v2 : Int32) {H : Heap} {locs : List Loc} {ls : Array Slot} (hf : b_X10_bytesOf_22  k5 v0 v1 v2 = some r0) (hw : Wo D A s [] H locs) (hl : lv_has ls 3 [(0, .int v0), (1, .int v1), (2, .int v2)]) : W p l e rm_X10_bytesOf s m args below meth c H locs 0 0 (MQ below (QcI D A r0 []) args s 0 0 A) (F0 m 22 ls []) := by
  obtain ⟨hx, hb, hml, hown, hts, hr, hlk⟩ := id C
  obtain ⟨hK, hX, hA⟩ := id K
  unfold b_X10_bytesOf_22 at hf
  obtain ⟨v2_1, e_v2_1, hf⟩ := bnd_some hf
  refine lv_iinc (v := v2_1) (lv' := [(2, .int v2_1), (0, .int v0), (1, .int v1)]) hx hb dX10_bytesOf_22 hl (k := 2) rfl (by rw [e_v2_1]; rfl) (by decide) rfl (fun ls hl => ?_)
  refine lv_goto (tgt := 5) hx hb dX10_bytesOf_25 (by decide) ?_
  exact hk5 v0 v1 v2_1 _ _ _ hf hw (lv_sub hl [1, 2, 0] rfl)
set_option maxHeartbeats 4000000 in
set_option maxRecDepth 100000 in
theorem q_X10_bytesOf_5 {p : Program} {l : Launch} {e : Env} {s : State} {m : MethodId} {args : Array Value} {below : List Frame} {meth : Method} {c : Code} {sx : List sx_T} {D : va_G} {cI cZ cO : ClassId} {A : Nat → Prop} (C : Cx p s m args meth c RX10 wsX10_bytesOf cX10_bytesOf 3 (some .int)) (K : Kx sx D (tyL cI cZ cO) A s) (r0 : Int32)   (k5 : Int32 → Int32 → Int32 → Option (Int32)) (hk5 : ∀ (v0 : Int32) (v1 : Int32) (v2 : Int32) (H : Heap) (locs : List Loc) (ls : Array Slot), k5 v0 v1 v2 = some r0 → Wo D A s [] H locs → lv_has ls 3 [(0, .int v0), (1, .int v1), (2, .int v2)] → W p l e rm_X10_bytesOf s m args below meth c H locs 0 0 (MQ below (QcI D A r0 []) args s 0 0 A) (F0 m 5 ls [])) (v0 : Int32) (v1 : Int32) (v2 : Int32) {H : Heap} {locs : List Loc} {ls : Array Slot} (hf : b_X10_bytesOf_5  k5 v0 v1 v2 = some r0) (hw : Wo D A s [] H locs) (hl : lv_has ls 3 [(0, .int v0), (1, .int v1), (2, .int v2)]) : W p l e rm_X10_bytesOf s m args below meth c H locs 0 0 (MQ below (QcI D A r0 []) args s 0 0 A) (F0 m 5 ls []) := by
  obtain ⟨hx, hb, hml, hown, hts, hr, hlk⟩ := id C
  obtain ⟨hK, hX, hA⟩ := id K
  unfold b_X10_bytesOf_5 at hf
  refine lv_iload_n hx hb dX10_bytesOf_5 rfl (lv_at hl 2 rfl) ?_
  refine lv_if_lt (tgt := 28) hx hb dX10_bytesOf_6 (by decide) (fun hc => ?_) (fun hc => ?_)
  · have hf := (if_pos hc).symm.trans hf
    refine lv_iload_n hx hb dX10_bytesOf_28 rfl (lv_at hl 1 rfl) ?_
    clear hk5; cases hf
    exact retI C hw dX10_bytesOf_29 rfl
  · have hf := (if_neg hc).symm.trans hf
    refine lv_iload_n hx hb dX10_bytesOf_9 rfl (lv_at hl 0 rfl) ?_
    refine lv_iload_n hx hb dX10_bytesOf_10 rfl (lv_at hl 2 rfl) ?_
    refine lv_iushr (v := ushr v0 v2) hx hb dX10_bytesOf_11 rfl ?_
    refine lv_sipush (v := (255 : Int32)) hx hb dX10_bytesOf_12 (by decide) ?_
    refine lv_iand hx hb dX10_bytesOf_15 ?_
    refine lv_if_eq (tgt := 22) hx hb dX10_bytesOf_16 (by decide) (fun hc => ?_) (fun hc => ?_)
    · have hf := (if_pos hc).symm.trans hf
      exact q_X10_bytesOf_22 C K r0 k5 hk5 v0 v1 v2 hf hw (lv_sub hl [0, 1, 2] rfl)
    · have hf := (if_neg hc).symm.trans hf
      obtain ⟨v1_1, e_v1_1, hf⟩ := bnd_some hf
      refine lv_iinc (v := v1_1) (lv' := [(1, .int v1_1), (0, .int v0), (2, .int v2)]) hx hb dX10_bytesOf_19 hl (k := 1) rfl (by rw [e_v1_1]; rfl) (by decide) rfl (fun ls hl => ?_)
      exact q_X10_bytesOf_22 C K r0 k5 hk5 v0 v1_1 v2 hf hw (lv_sub hl [1, 0, 2] rfl)
theorem qf_X10_bytesOf_5 {p : Program} {l : Launch} {e : Env} {s : State} {m : MethodId} {args : Array Value} {below : List Frame} {meth : Method} {c : Code} {sx : List sx_T} {D : va_G} {cI cZ cO : ClassId} {A : Nat → Prop} (C : Cx p s m args meth c RX10 wsX10_bytesOf cX10_bytesOf 3 (some .int)) (K : Kx sx D (tyL cI cZ cO) A s) (r0 : Int32)    (n : Nat) : ∀ (v0 : Int32) (v1 : Int32) (v2 : Int32) (H : Heap) (locs : List Loc) (ls : Array Slot), f_X10_bytesOf_5   n v0 v1 v2 = some r0 → Wo D A s [] H locs → lv_has ls 3 [(0, .int v0), (1, .int v1), (2, .int v2)] → W p l e rm_X10_bytesOf s m args below meth c H locs 0 0 (MQ below (QcI D A r0 []) args s 0 0 A) (F0 m 5 ls []) := by
  induction n with
  | zero =>
    intro v0 v1 v2 H locs ls hf
    have h9 : (none : Option (Int32)) = some r0 := hf
    cases h9
  | succ n ih =>
    intro v0 v1 v2 H locs ls hf hw hl
    exact q_X10_bytesOf_5 C K r0  (f_X10_bytesOf_5   n) ih v0 v1 v2 hf hw hl
set_option maxHeartbeats 4000000 in
set_option maxRecDepth 100000 in
theorem q_X10_bytesOf_0 {p : Program} {l : Launch} {e : Env} {s : State} {m : MethodId} {args : Array Value} {below : List Frame} {meth : Method} {c : Code} {sx : List sx_T} {D : va_G} {cI cZ cO : ClassId} {A : Nat → Prop} (C : Cx p s m args meth c RX10 wsX10_bytesOf cX10_bytesOf 3 (some .int)) (K : Kx sx D (tyL cI cZ cO) A s) (r0 : Int32)    (v0 : Int32) {H : Heap} {locs : List Loc} {ls : Array Slot} (hf : b_X10_bytesOf_0   v0 = some r0) (hw : Wo D A s [] H locs) (hl : lv_has ls 3 [(0, .int v0)]) : W p l e rm_X10_bytesOf s m args below meth c H locs 0 0 (MQ below (QcI D A r0 []) args s 0 0 A) (F0 m 0 ls []) := by
  obtain ⟨hx, hb, hml, hown, hts, hr, hlk⟩ := id C
  obtain ⟨hK, hX, hA⟩ := id K
  unfold b_X10_bytesOf_0 at hf
  refine lv_iconst (v := (0 : Int32)) hx hb dX10_bytesOf_0 (by decide) ?_
  refine lv_istore_n (lv' := [(1, .int (0 : Int32)), (0, .int v0)]) hx hb dX10_bytesOf_1 rfl hl (by decide) rfl (fun ls hl => ?_)
  refine lv_bipush (v := (24 : Int32)) hx hb dX10_bytesOf_2 (by decide) ?_
  refine lv_istore_n (lv' := [(2, .int (24 : Int32)), (1, .int (0 : Int32)), (0, .int v0)]) hx hb dX10_bytesOf_4 rfl hl (by decide) rfl (fun ls hl => ?_)
  exact qf_X10_bytesOf_5 C K r0  fu v0 (0 : Int32) (24 : Int32) _ _ _ hf hw (lv_sub hl [2, 1, 0] rfl)
set_option maxHeartbeats 4000000 in
set_option maxRecDepth 100000 in
theorem k_X10_bytesOf {l : Launch} {sx : List sx_T} {D : va_G} {cI cZ cO : ClassId} (r0 : Int32) (p1 : Int32) (hF : f_X10_bytesOf p1 = some r0) : CtI l yX10_bytesOf wsX10_bytesOf rm_X10_bytesOf sx D (tyL cI cZ cO) [.int p1] [] r0 [] := by
  refine ctI_of (cc := cX10_bytesOf) (ret := (some .int)) (maxL := 3) (by decide) rfl (Nat.le_of_ble_eq_true rfl) ?_
  intro p e s m below meth c A ls C K hw hl
  exact q_X10_bytesOf_0 C K r0 p1 hF hw (lv_sub hl [0] rfl)
abbrev rm_X10_put : Room := { frames := 0, cells := 0, slots := 0, locals := 0 }
theorem in_X10_put_X10 : ∀ w ∈ u_ws RX10 TX10 3, w ∈ wsX10_put := fun w h => List.mem_cons_of_mem _ (bi_wsX100 w h)
theorem lk_X10_put_0 : Cond.fieldLink RX10 15 "GloveHouses$Tape" "length" "I" ∈ wsX10_put := List.mem_cons_of_mem _ (bi_wsL_law0_r8 _ (List.mem_of_getElem? (i := 15) rfl))
theorem lk_X10_put_1 : Cond.fieldLink RX10 9 "GloveHouses$Tape" "bytes" "[I" ∈ wsX10_put := List.mem_cons_of_mem _ (bi_wsL_law0_r3 _ (List.mem_of_getElem? (i := 21) rfl))
set_option maxHeartbeats 4000000 in
set_option maxRecDepth 100000 in
theorem q_X10_put_49 {p : Program} {l : Launch} {e : Env} {s : State} {m : MethodId} {args : Array Value} {below : List Frame} {meth : Method} {c : Code} {sx : List sx_T} {D : va_G} {cI cZ cO : ClassId} {A : Nat → Prop} (C : Cx p s m args meth c RX10 wsX10_put cX10_put 4 none) (K : Kx sx D (tyL cI cZ cO) A s) (a_tape : Nat) (a_tape_bytes : Nat) (tape_at : Int32) (o_tape_length : Int32) (o_tape_bytes : Nat → Int32)   (k3 : Int32 → (Nat → Int32) → Int32 → Int32 → Option (Int32 × (Nat → Int32))) (hk3 : ∀ (tape_length : Int32) (tape_bytes : Nat → Int32) (v1 : Int32) (v2 : Int32) (H : Heap) (locs : List Loc) (ls : Array Slot), k3 tape_length tape_bytes v1 v2 = some (o_tape_length, o_tape_bytes) → Wo D A s [(oX10 a_tape (.ref a_tape_bytes) (.int tape_length) (.int tape_at)), (a_tape_bytes, .inl (cI, 240, .inl tape_bytes))] H locs → lv_has ls 4 [(0, .ref a_tape), (1, .int v1), (2, .int v2)] → W p l e rm_X10_put s m args below meth c H locs 0 0 (MQ below (QcV D A [(oX10 a_tape (.ref a_tape_bytes) (.int o_tape_length) (.int tape_at)), (a_tape_bytes, .inl (cI, 240, .inl o_tape_bytes))]) args s 0 0 A) (F0 m 3 ls [])) (tape_length : Int32) (tape_bytes : Nat → Int32) (v1 : Int32) (v2 : Int32) {H : Heap} {locs : List Loc} {ls : Array Slot} (hf : b_X10_put_49  k3 tape_length tape_bytes v1 v2 = some (o_tape_length, o_tape_bytes)) (hw : Wo D A s [(oX10 a_tape (.ref a_tape_bytes) (.int tape_length) (.int tape_at)), (a_tape_bytes, .inl (cI, 240, .inl tape_bytes))] H locs) (hl : lv_has ls 4 [(0, .ref a_tape), (1, .int v1), (2, .int v2)]) : W p l e rm_X10_put s m args below meth c H locs 0 0 (MQ below (QcV D A [(oX10 a_tape (.ref a_tape_bytes) (.int o_tape_length) (.int tape_at)), (a_tape_bytes, .inl (cI, 240, .inl o_tape_bytes))]) args s 0 0 A) (F0 m 49 ls []) := by
  obtain ⟨hx, hb, hml, hown, hts, hr, hlk⟩ := id C
  obtain ⟨hK, hX, hA⟩ := id K
  unfold b_X10_put_49 at hf
  obtain ⟨v2_1, e_v2_1, hf⟩ := bnd_some hf
  refine lv_iinc (v := v2_1) (lv' := [(2, .int v2_1), (0, .ref a_tape), (1, .int v1)]) hx hb dX10_put_49 hl (k := 2) rfl (by rw [e_v2_1]; rfl) (by decide) rfl (fun ls hl => ?_)
  refine lv_goto (tgt := 3) hx hb dX10_put_52 (by decide) ?_
  exact hk3 tape_length tape_bytes v1 v2_1 _ _ _ hf hw (lv_sub hl [1, 2, 0] rfl)
set_option maxHeartbeats 4000000 in
set_option maxRecDepth 100000 in
theorem q_X10_put_3 {p : Program} {l : Launch} {e : Env} {s : State} {m : MethodId} {args : Array Value} {below : List Frame} {meth : Method} {c : Code} {sx : List sx_T} {D : va_G} {cI cZ cO : ClassId} {A : Nat → Prop} (C : Cx p s m args meth c RX10 wsX10_put cX10_put 4 none) (K : Kx sx D (tyL cI cZ cO) A s) (a_tape : Nat) (a_tape_bytes : Nat) (tape_at : Int32) (o_tape_length : Int32) (o_tape_bytes : Nat → Int32)   (k3 : Int32 → (Nat → Int32) → Int32 → Int32 → Option (Int32 × (Nat → Int32))) (hk3 : ∀ (tape_length : Int32) (tape_bytes : Nat → Int32) (v1 : Int32) (v2 : Int32) (H : Heap) (locs : List Loc) (ls : Array Slot), k3 tape_length tape_bytes v1 v2 = some (o_tape_length, o_tape_bytes) → Wo D A s [(oX10 a_tape (.ref a_tape_bytes) (.int tape_length) (.int tape_at)), (a_tape_bytes, .inl (cI, 240, .inl tape_bytes))] H locs → lv_has ls 4 [(0, .ref a_tape), (1, .int v1), (2, .int v2)] → W p l e rm_X10_put s m args below meth c H locs 0 0 (MQ below (QcV D A [(oX10 a_tape (.ref a_tape_bytes) (.int o_tape_length) (.int tape_at)), (a_tape_bytes, .inl (cI, 240, .inl o_tape_bytes))]) args s 0 0 A) (F0 m 3 ls [])) (tape_length : Int32) (tape_bytes : Nat → Int32) (v1 : Int32) (v2 : Int32) {H : Heap} {locs : List Loc} {ls : Array Slot} (hf : b_X10_put_3  k3 tape_length tape_bytes v1 v2 = some (o_tape_length, o_tape_bytes)) (hw : Wo D A s [(oX10 a_tape (.ref a_tape_bytes) (.int tape_length) (.int tape_at)), (a_tape_bytes, .inl (cI, 240, .inl tape_bytes))] H locs) (hl : lv_has ls 4 [(0, .ref a_tape), (1, .int v1), (2, .int v2)]) : W p l e rm_X10_put s m args below meth c H locs 0 0 (MQ below (QcV D A [(oX10 a_tape (.ref a_tape_bytes) (.int o_tape_length) (.int tape_at)), (a_tape_bytes, .inl (cI, 240, .inl o_tape_bytes))]) args s 0 0 A) (F0 m 3 ls []) := by
  obtain ⟨hx, hb, hml, hown, hts, hr, hlk⟩ := id C
  obtain ⟨hK, hX, hA⟩ := id K
  unfold b_X10_put_3 at hf
  refine lv_iload_n hx hb dX10_put_3 rfl (lv_at hl 2 rfl) ?_
  refine lv_if_lt (tgt := 55) hx hb dX10_put_4 (by decide) (fun hc => ?_) (fun hc => ?_)
  · have hf := (if_pos hc).symm.trans hf
    clear hk3; cases hf
    exact retV C hw dX10_put_55
  · have hf := (if_neg hc).symm.trans hf
    refine lv_iload_n hx hb dX10_put_7 rfl (lv_at hl 1 rfl) ?_
    refine lv_iload_n hx hb dX10_put_8 rfl (lv_at hl 2 rfl) ?_
    refine lv_iushr (v := ushr v1 v2) hx hb dX10_put_9 rfl ?_
    refine lv_sipush (v := (255 : Int32)) hx hb dX10_put_10 (by decide) ?_
    refine lv_iand hx hb dX10_put_13 ?_
    obtain ⟨v3_1, e_v3_1, hf⟩ := bnd_some hf
    refine lv_nmi e_v3_1 ?_
    refine lv_istore_n (lv' := [(3, .int v3_1), (0, .ref a_tape), (1, .int v1), (2, .int v2)]) hx hb dX10_put_14 rfl hl (by decide) rfl (fun ls hl => ?_)
    refine lv_iload_n hx hb dX10_put_15 rfl (lv_at hl 0 rfl) ?_
    refine lv_if_eq (tgt := 49) hx hb dX10_put_16 (by decide) (fun hc => ?_) (fun hc => ?_)
    · have hf := (if_pos hc).symm.trans hf
      exact q_X10_put_49 C K a_tape a_tape_bytes tape_at o_tape_length o_tape_bytes k3 hk3 tape_length tape_bytes v1 v2 hf hw (lv_sub hl [1, 2, 3] rfl)
    · have hf := (if_neg hc).symm.trans hf
      refine lv_aload_n hx hb dX10_put_19 rfl (lv_at hl 1 rfl) ?_
      refine va_get (ci := 10) (v := .int tape_length) (C := RX10) (T := TX10) (N := 3) hx hb hts in_X10_put_X10 hown hK hw.1 0 rfl rfl 1 (by decide) (hts _ lk_X10_put_0) (fun _ h9 => h9) rfl dX10_put_20 ?_
      refine lv_sipush (v := (240 : Int32)) hx hb dX10_put_23 (by decide) ?_
      refine lv_icmp_ge (tgt := 49) hx hb dX10_put_26 (by decide) (fun hc => ?_) (fun hc => ?_)
      · have hf := (if_pos hc).symm.trans hf
        exact q_X10_put_49 C K a_tape a_tape_bytes tape_at o_tape_length o_tape_bytes k3 hk3 tape_length tape_bytes v1 v2 hf hw (lv_sub hl [1, 2, 3] rfl)
      · have hf := (if_neg hc).symm.trans hf
        refine lv_aload_n hx hb dX10_put_29 rfl (lv_at hl 1 rfl) ?_
        refine va_get (ci := 10) (v := .ref a_tape_bytes) (C := RX10) (T := TX10) (N := 3) hx hb hts in_X10_put_X10 hown hK hw.1 0 rfl rfl 0 (by decide) (hts _ lk_X10_put_1) (fun _ h9 => h9) rfl dX10_put_30 ?_
        refine lv_aload_n hx hb dX10_put_33 rfl (lv_at hl 1 rfl) ?_
        refine va_get (ci := 10) (v := .int tape_length) (C := RX10) (T := TX10) (N := 3) hx hb hts in_X10_put_X10 hown hK hw.1 0 rfl rfl 1 (by decide) (hts _ lk_X10_put_0) (fun _ h9 => h9) rfl dX10_put_34 ?_
        refine lv_iload_n hx hb dX10_put_37 rfl (lv_at hl 0 rfl) ?_
        obtain ⟨hc_2, hf⟩ := gd_some hf
        obtain ⟨tape_bytes_3, e_tape_bytes_3, hf⟩ := bnd_some hf
        refine va_iast hx hb hK hw.1 hw.2.1 hw.2.2 1 0 rfl rfl (inB_in hc_2) dX10_put_38 (fun H locs hP hD hS => ?_)
        have hw : Wo D A s [(oX10 a_tape (.ref a_tape_bytes) (.int tape_length) (.int tape_at)), (a_tape_bytes, .inl (cI, 240, .inl tape_bytes_3))] H locs := by rw [e_tape_bytes_3]; exact ⟨hP, hD, hS⟩
        refine lv_aload_n hx hb dX10_put_39 rfl (lv_at hl 1 rfl) ?_
        refine lv_dup hx hb dX10_put_40 rfl ?_
        refine va_get (ci := 10) (v := .int tape_length) (C := RX10) (T := TX10) (N := 3) hx hb hts in_X10_put_X10 hown hK hw.1 0 rfl rfl 1 (by decide) (hts _ lk_X10_put_0) (fun _ h9 => h9) rfl dX10_put_41 ?_
        refine lv_iconst (v := (1 : Int32)) hx hb dX10_put_44 (by decide) ?_
        refine lv_iadd hx hb dX10_put_45 ?_
        obtain ⟨length_4, e_length_4, hf⟩ := bnd_some hf
        refine lv_nmi e_length_4 ?_
        refine va_put (ci := 10) (v := .int length_4) (ty := .int) (C := RX10) (T := TX10) (N := 3) hx hb hts in_X10_put_X10 tyX10 tyX10_ok nmX10 hown hK hw.1 hw.2.1 hw.2.2 0 rfl rfl 1 (by decide) (hts _ lk_X10_put_0) (fun _ h9 => h9) rfl (by decide +kernel) rfl rfl (Nat.le_of_ble_eq_true rfl) dX10_put_46 (fun H locs hP hD hS => ?_)
        have hw : Wo D A s [(oX10 a_tape (.ref a_tape_bytes) (.int length_4) (.int tape_at)), (a_tape_bytes, .inl (cI, 240, .inl tape_bytes_3))] H locs := ⟨hP, hD, hS⟩
        exact q_X10_put_49 C K a_tape a_tape_bytes tape_at o_tape_length o_tape_bytes k3 hk3 length_4 tape_bytes_3 v1 v2 hf hw (lv_sub hl [1, 2, 3] rfl)
theorem qf_X10_put_3 {p : Program} {l : Launch} {e : Env} {s : State} {m : MethodId} {args : Array Value} {below : List Frame} {meth : Method} {c : Code} {sx : List sx_T} {D : va_G} {cI cZ cO : ClassId} {A : Nat → Prop} (C : Cx p s m args meth c RX10 wsX10_put cX10_put 4 none) (K : Kx sx D (tyL cI cZ cO) A s) (a_tape : Nat) (a_tape_bytes : Nat) (tape_at : Int32) (o_tape_length : Int32) (o_tape_bytes : Nat → Int32)    (n : Nat) : ∀ (tape_length : Int32) (tape_bytes : Nat → Int32) (v1 : Int32) (v2 : Int32) (H : Heap) (locs : List Loc) (ls : Array Slot), f_X10_put_3   n tape_length tape_bytes v1 v2 = some (o_tape_length, o_tape_bytes) → Wo D A s [(oX10 a_tape (.ref a_tape_bytes) (.int tape_length) (.int tape_at)), (a_tape_bytes, .inl (cI, 240, .inl tape_bytes))] H locs → lv_has ls 4 [(0, .ref a_tape), (1, .int v1), (2, .int v2)] → W p l e rm_X10_put s m args below meth c H locs 0 0 (MQ below (QcV D A [(oX10 a_tape (.ref a_tape_bytes) (.int o_tape_length) (.int tape_at)), (a_tape_bytes, .inl (cI, 240, .inl o_tape_bytes))]) args s 0 0 A) (F0 m 3 ls []) := by
  induction n with
  | zero =>
    intro tape_length tape_bytes v1 v2 H locs ls hf
    have h9 : (none : Option (Int32 × (Nat → Int32))) = some (o_tape_length, o_tape_bytes) := hf
    cases h9
  | succ n ih =>
    intro tape_length tape_bytes v1 v2 H locs ls hf hw hl
    exact q_X10_put_3 C K a_tape a_tape_bytes tape_at o_tape_length o_tape_bytes  (f_X10_put_3   n) ih tape_length tape_bytes v1 v2 hf hw hl
set_option maxHeartbeats 4000000 in
set_option maxRecDepth 100000 in
theorem q_X10_put_0 {p : Program} {l : Launch} {e : Env} {s : State} {m : MethodId} {args : Array Value} {below : List Frame} {meth : Method} {c : Code} {sx : List sx_T} {D : va_G} {cI cZ cO : ClassId} {A : Nat → Prop} (C : Cx p s m args meth c RX10 wsX10_put cX10_put 4 none) (K : Kx sx D (tyL cI cZ cO) A s) (a_tape : Nat) (a_tape_bytes : Nat) (tape_at : Int32) (o_tape_length : Int32) (o_tape_bytes : Nat → Int32)    (tape_length : Int32) (tape_bytes : Nat → Int32) (v1 : Int32) {H : Heap} {locs : List Loc} {ls : Array Slot} (hf : b_X10_put_0   tape_length tape_bytes v1 = some (o_tape_length, o_tape_bytes)) (hw : Wo D A s [(oX10 a_tape (.ref a_tape_bytes) (.int tape_length) (.int tape_at)), (a_tape_bytes, .inl (cI, 240, .inl tape_bytes))] H locs) (hl : lv_has ls 4 [(0, .ref a_tape), (1, .int v1)]) : W p l e rm_X10_put s m args below meth c H locs 0 0 (MQ below (QcV D A [(oX10 a_tape (.ref a_tape_bytes) (.int o_tape_length) (.int tape_at)), (a_tape_bytes, .inl (cI, 240, .inl o_tape_bytes))]) args s 0 0 A) (F0 m 0 ls []) := by
  obtain ⟨hx, hb, hml, hown, hts, hr, hlk⟩ := id C
  obtain ⟨hK, hX, hA⟩ := id K
  unfold b_X10_put_0 at hf
  refine lv_bipush (v := (24 : Int32)) hx hb dX10_put_0 (by decide) ?_
  refine lv_istore_n (lv' := [(2, .int (24 : Int32)), (0, .ref a_tape), (1, .int v1)]) hx hb dX10_put_2 rfl hl (by decide) rfl (fun ls hl => ?_)
  exact qf_X10_put_3 C K a_tape a_tape_bytes tape_at o_tape_length o_tape_bytes  fu tape_length tape_bytes v1 (24 : Int32) _ _ _ hf hw (lv_sub hl [1, 2, 0] rfl)
set_option maxHeartbeats 4000000 in
set_option maxRecDepth 100000 in
theorem k_X10_put {l : Launch} {sx : List sx_T} {D : va_G} {cI cZ cO : ClassId} (a_tape : Nat) (a_tape_bytes : Nat) (tape_at : Int32) (o_tape_length : Int32) (o_tape_bytes : Nat → Int32) (tape_length : Int32) (tape_bytes : Nat → Int32) (p1 : Int32) (hF : f_X10_put tape_length tape_bytes p1 = some (o_tape_length, o_tape_bytes)) : CtV l yX10_put wsX10_put rm_X10_put sx D (tyL cI cZ cO) [.ref a_tape, .int p1] [(oX10 a_tape (.ref a_tape_bytes) (.int tape_length) (.int tape_at)), (a_tape_bytes, .inl (cI, 240, .inl tape_bytes))] [(oX10 a_tape (.ref a_tape_bytes) (.int o_tape_length) (.int tape_at)), (a_tape_bytes, .inl (cI, 240, .inl o_tape_bytes))] := by
  refine ctV_of (cc := cX10_put) (ret := none) (maxL := 4) (by decide) rfl (Nat.le_of_ble_eq_true rfl) ?_
  intro p e s m below meth c A ls C K hw hl
  exact q_X10_put_0 C K a_tape a_tape_bytes tape_at o_tape_length o_tape_bytes tape_length tape_bytes p1 hF hw (lv_sub hl [0, 1] rfl)
abbrev rm_X10_sign : Room := { frames := 0, cells := 0, slots := 0, locals := 0 }
theorem in_X10_sign_X10 : ∀ w ∈ u_ws RX10 TX10 3, w ∈ wsX10_sign := fun w h => List.mem_cons_of_mem _ (bi_wsX100 w h)
theorem lk_X10_sign_0 : Cond.fieldLink RX10 19 "GloveHouses$Tape" "at" "I" ∈ wsX10_sign := List.mem_cons_of_mem _ (bi_wsL_law0_r10 _ (List.mem_of_getElem? (i := 8) rfl))
theorem lk_X10_sign_1 : Cond.fieldLink RX10 15 "GloveHouses$Tape" "length" "I" ∈ wsX10_sign := List.mem_cons_of_mem _ (bi_wsL_law0_r8 _ (List.mem_of_getElem? (i := 15) rfl))
theorem lk_X10_sign_2 : Cond.fieldLink RX10 9 "GloveHouses$Tape" "bytes" "[I" ∈ wsX10_sign := List.mem_cons_of_mem _ (bi_wsL_law0_r3 _ (List.mem_of_getElem? (i := 21) rfl))
set_option maxHeartbeats 4000000 in
set_option maxRecDepth 100000 in
theorem q_X10_sign_0 {p : Program} {l : Launch} {e : Env} {s : State} {m : MethodId} {args : Array Value} {below : List Frame} {meth : Method} {c : Code} {sx : List sx_T} {D : va_G} {cI cZ cO : ClassId} {A : Nat → Prop} (C : Cx p s m args meth c RX10 wsX10_sign cX10_sign 1 (some .int)) (K : Kx sx D (tyL cI cZ cO) A s) (a_tape : Nat) (a_tape_bytes : Nat) (tape_length : Int32) (tape_bytes : Nat → Int32) (r0 : Int32) (o_tape_at : Int32)   (k0 : Int32 → Option (Int32 × Int32)) (hk0 : ∀ (tape_at : Int32) (H : Heap) (locs : List Loc) (ls : Array Slot), k0 tape_at = some (r0, o_tape_at) → Wo D A s [(oX10 a_tape (.ref a_tape_bytes) (.int tape_length) (.int tape_at)), (a_tape_bytes, .inl (cI, 240, .inl tape_bytes))] H locs → lv_has ls 1 [(0, .ref a_tape)] → W p l e rm_X10_sign s m args below meth c H locs 0 0 (MQ below (QcI D A r0 [(oX10 a_tape (.ref a_tape_bytes) (.int tape_length) (.int o_tape_at)), (a_tape_bytes, .inl (cI, 240, .inl tape_bytes))]) args s 0 0 A) (F0 m 0 ls [])) (tape_at : Int32) {H : Heap} {locs : List Loc} {ls : Array Slot} (hf : b_X10_sign_0 tape_length tape_bytes k0 tape_at = some (r0, o_tape_at)) (hw : Wo D A s [(oX10 a_tape (.ref a_tape_bytes) (.int tape_length) (.int tape_at)), (a_tape_bytes, .inl (cI, 240, .inl tape_bytes))] H locs) (hl : lv_has ls 1 [(0, .ref a_tape)]) : W p l e rm_X10_sign s m args below meth c H locs 0 0 (MQ below (QcI D A r0 [(oX10 a_tape (.ref a_tape_bytes) (.int tape_length) (.int o_tape_at)), (a_tape_bytes, .inl (cI, 240, .inl tape_bytes))]) args s 0 0 A) (F0 m 0 ls []) := by
  obtain ⟨hx, hb, hml, hown, hts, hr, hlk⟩ := id C
  obtain ⟨hK, hX, hA⟩ := id K
  unfold b_X10_sign_0 at hf
  refine lv_aload_n hx hb dX10_sign_0 rfl (lv_at hl 0 rfl) ?_
  refine va_get (ci := 10) (v := .int tape_at) (C := RX10) (T := TX10) (N := 3) hx hb hts in_X10_sign_X10 hown hK hw.1 0 rfl rfl 2 (by decide) (hts _ lk_X10_sign_0) (fun _ h9 => h9) rfl dX10_sign_1 ?_
  refine lv_aload_n hx hb dX10_sign_4 rfl (lv_at hl 0 rfl) ?_
  refine va_get (ci := 10) (v := .int tape_length) (C := RX10) (T := TX10) (N := 3) hx hb hts in_X10_sign_X10 hown hK hw.1 0 rfl rfl 1 (by decide) (hts _ lk_X10_sign_1) (fun _ h9 => h9) rfl dX10_sign_5 ?_
  refine lv_icmp_ge (tgt := 48) hx hb dX10_sign_8 (by decide) (fun hc => ?_) (fun hc => ?_)
  · have hf := (if_pos hc).symm.trans hf
    refine lv_iconst (v := (-1 : Int32)) hx hb dX10_sign_48 (by decide) ?_
    clear hk0; cases hf
    exact retI C hw dX10_sign_49 rfl
  · have hf := (if_neg hc).symm.trans hf
    refine lv_aload_n hx hb dX10_sign_11 rfl (lv_at hl 0 rfl) ?_
    refine va_get (ci := 10) (v := .ref a_tape_bytes) (C := RX10) (T := TX10) (N := 3) hx hb hts in_X10_sign_X10 hown hK hw.1 0 rfl rfl 0 (by decide) (hts _ lk_X10_sign_2) (fun _ h9 => h9) rfl dX10_sign_12 ?_
    refine lv_aload_n hx hb dX10_sign_15 rfl (lv_at hl 0 rfl) ?_
    refine va_get (ci := 10) (v := .int tape_at) (C := RX10) (T := TX10) (N := 3) hx hb hts in_X10_sign_X10 hown hK hw.1 0 rfl rfl 2 (by decide) (hts _ lk_X10_sign_0) (fun _ h9 => h9) rfl dX10_sign_16 ?_
    obtain ⟨hc_1, hf⟩ := gd_some hf
    refine va_iald hx hb hK hw.1 1 0 rfl rfl (inB_in hc_1) dX10_sign_19 ?_
    refine lv_bipush (v := (32 : Int32)) hx hb dX10_sign_20 (by decide) ?_
    refine lv_icmp_eq (tgt := 35) hx hb dX10_sign_22 (by decide) (fun hc => ?_) (fun hc => ?_)
    · have hf := (if_pos hc).symm.trans hf
      refine lv_aload_n hx hb dX10_sign_35 rfl (lv_at hl 0 rfl) ?_
      refine lv_dup hx hb dX10_sign_36 rfl ?_
      refine va_get (ci := 10) (v := .int tape_at) (C := RX10) (T := TX10) (N := 3) hx hb hts in_X10_sign_X10 hown hK hw.1 0 rfl rfl 2 (by decide) (hts _ lk_X10_sign_0) (fun _ h9 => h9) rfl dX10_sign_37 ?_
      refine lv_iconst (v := (1 : Int32)) hx hb dX10_sign_40 (by decide) ?_
      refine lv_iadd hx hb dX10_sign_41 ?_
      obtain ⟨at_2, e_at_2, hf⟩ := bnd_some hf
      refine lv_nmi e_at_2 ?_
      refine va_put (ci := 10) (v := .int at_2) (ty := .int) (C := RX10) (T := TX10) (N := 3) hx hb hts in_X10_sign_X10 tyX10 tyX10_ok nmX10 hown hK hw.1 hw.2.1 hw.2.2 0 rfl rfl 2 (by decide) (hts _ lk_X10_sign_0) (fun _ h9 => h9) rfl (by decide +kernel) rfl rfl (Nat.le_of_ble_eq_true rfl) dX10_sign_42 (fun H locs hP hD hS => ?_)
      have hw : Wo D A s [(oX10 a_tape (.ref a_tape_bytes) (.int tape_length) (.int at_2)), (a_tape_bytes, .inl (cI, 240, .inl tape_bytes))] H locs := ⟨hP, hD, hS⟩
      refine lv_goto (tgt := 0) hx hb dX10_sign_45 (by decide) ?_
      exact hk0 at_2 _ _ _ hf hw (lv_sub hl [0] rfl)
    · have hf := (if_neg hc).symm.trans hf
      refine lv_aload_n hx hb dX10_sign_25 rfl (lv_at hl 0 rfl) ?_
      refine va_get (ci := 10) (v := .ref a_tape_bytes) (C := RX10) (T := TX10) (N := 3) hx hb hts in_X10_sign_X10 hown hK hw.1 0 rfl rfl 0 (by decide) (hts _ lk_X10_sign_2) (fun _ h9 => h9) rfl dX10_sign_26 ?_
      refine lv_aload_n hx hb dX10_sign_29 rfl (lv_at hl 0 rfl) ?_
      refine va_get (ci := 10) (v := .int tape_at) (C := RX10) (T := TX10) (N := 3) hx hb hts in_X10_sign_X10 hown hK hw.1 0 rfl rfl 2 (by decide) (hts _ lk_X10_sign_0) (fun _ h9 => h9) rfl dX10_sign_30 ?_
      obtain ⟨hc_3, hf⟩ := gd_some hf
      refine va_iald hx hb hK hw.1 1 0 rfl rfl (inB_in hc_3) dX10_sign_33 ?_
      clear hk0; cases hf
      exact retI C hw dX10_sign_34 rfl
theorem qf_X10_sign_0 {p : Program} {l : Launch} {e : Env} {s : State} {m : MethodId} {args : Array Value} {below : List Frame} {meth : Method} {c : Code} {sx : List sx_T} {D : va_G} {cI cZ cO : ClassId} {A : Nat → Prop} (C : Cx p s m args meth c RX10 wsX10_sign cX10_sign 1 (some .int)) (K : Kx sx D (tyL cI cZ cO) A s) (a_tape : Nat) (a_tape_bytes : Nat) (tape_length : Int32) (tape_bytes : Nat → Int32) (r0 : Int32) (o_tape_at : Int32)    (n : Nat) : ∀ (tape_at : Int32) (H : Heap) (locs : List Loc) (ls : Array Slot), f_X10_sign_0 tape_length tape_bytes  n tape_at = some (r0, o_tape_at) → Wo D A s [(oX10 a_tape (.ref a_tape_bytes) (.int tape_length) (.int tape_at)), (a_tape_bytes, .inl (cI, 240, .inl tape_bytes))] H locs → lv_has ls 1 [(0, .ref a_tape)] → W p l e rm_X10_sign s m args below meth c H locs 0 0 (MQ below (QcI D A r0 [(oX10 a_tape (.ref a_tape_bytes) (.int tape_length) (.int o_tape_at)), (a_tape_bytes, .inl (cI, 240, .inl tape_bytes))]) args s 0 0 A) (F0 m 0 ls []) := by
  induction n with
  | zero =>
    intro tape_at H locs ls hf
    have h9 : (none : Option (Int32 × Int32)) = some (r0, o_tape_at) := hf
    cases h9
  | succ n ih =>
    intro tape_at H locs ls hf hw hl
    exact q_X10_sign_0 C K a_tape a_tape_bytes tape_length tape_bytes r0 o_tape_at  (f_X10_sign_0 tape_length tape_bytes  n) ih tape_at hf hw hl
set_option maxHeartbeats 4000000 in
set_option maxRecDepth 100000 in
theorem k_X10_sign {l : Launch} {sx : List sx_T} {D : va_G} {cI cZ cO : ClassId} (a_tape : Nat) (a_tape_bytes : Nat) (tape_length : Int32) (tape_bytes : Nat → Int32) (r0 : Int32) (o_tape_at : Int32) (tape_at : Int32) (hF : f_X10_sign tape_length tape_bytes tape_at = some (r0, o_tape_at)) : CtI l yX10_sign wsX10_sign rm_X10_sign sx D (tyL cI cZ cO) [.ref a_tape] [(oX10 a_tape (.ref a_tape_bytes) (.int tape_length) (.int tape_at)), (a_tape_bytes, .inl (cI, 240, .inl tape_bytes))] r0 [(oX10 a_tape (.ref a_tape_bytes) (.int tape_length) (.int o_tape_at)), (a_tape_bytes, .inl (cI, 240, .inl tape_bytes))] := by
  refine ctI_of (cc := cX10_sign) (ret := (some .int)) (maxL := 1) (by decide) rfl (Nat.le_of_ble_eq_true rfl) ?_
  intro p e s m below meth c A ls C K hw hl
  exact qf_X10_sign_0 C K a_tape a_tape_bytes tape_length tape_bytes r0 o_tape_at fu tape_at _ _ _ hF hw (lv_sub hl [0] rfl)
abbrev rm_X10_isAtDigit : Room := { frames := 0, cells := 0, slots := 0, locals := 0 }
theorem in_X10_isAtDigit_X10 : ∀ w ∈ u_ws RX10 TX10 3, w ∈ wsX10_isAtDigit := fun w h => List.mem_cons_of_mem _ (bi_wsX100 w h)
theorem lk_X10_isAtDigit_0 : Cond.fieldLink RX10 19 "GloveHouses$Tape" "at" "I" ∈ wsX10_isAtDigit := List.mem_cons_of_mem _ (bi_wsL_law0_r10 _ (List.mem_of_getElem? (i := 8) rfl))
theorem lk_X10_isAtDigit_1 : Cond.fieldLink RX10 15 "GloveHouses$Tape" "length" "I" ∈ wsX10_isAtDigit := List.mem_cons_of_mem _ (bi_wsL_law0_r8 _ (List.mem_of_getElem? (i := 15) rfl))
theorem lk_X10_isAtDigit_2 : Cond.fieldLink RX10 9 "GloveHouses$Tape" "bytes" "[I" ∈ wsX10_isAtDigit := List.mem_cons_of_mem _ (bi_wsL_law0_r3 _ (List.mem_of_getElem? (i := 21) rfl))
set_option maxHeartbeats 4000000 in
set_option maxRecDepth 100000 in
theorem q_X10_isAtDigit_0 {p : Program} {l : Launch} {e : Env} {s : State} {m : MethodId} {args : Array Value} {below : List Frame} {meth : Method} {c : Code} {sx : List sx_T} {D : va_G} {cI cZ cO : ClassId} {A : Nat → Prop} (C : Cx p s m args meth c RX10 wsX10_isAtDigit cX10_isAtDigit 1 (some .boolean)) (K : Kx sx D (tyL cI cZ cO) A s) (a_tape : Nat) (a_tape_bytes : Nat) (tape_length : Int32) (tape_at : Int32) (tape_bytes : Nat → Int32) (r0 : Int32)     {H : Heap} {locs : List Loc} {ls : Array Slot} (hf : b_X10_isAtDigit_0 tape_length tape_at tape_bytes   = some r0) (hw : Wo D A s [(oX10 a_tape (.ref a_tape_bytes) (.int tape_length) (.int tape_at)), (a_tape_bytes, .inl (cI, 240, .inl tape_bytes))] H locs) (hl : lv_has ls 1 [(0, .ref a_tape)]) : W p l e rm_X10_isAtDigit s m args below meth c H locs 0 0 (MQ below (QcI D A r0 [(oX10 a_tape (.ref a_tape_bytes) (.int tape_length) (.int tape_at)), (a_tape_bytes, .inl (cI, 240, .inl tape_bytes))]) args s 0 0 A) (F0 m 0 ls []) := by
  obtain ⟨hx, hb, hml, hown, hts, hr, hlk⟩ := id C
  obtain ⟨hK, hX, hA⟩ := id K
  unfold b_X10_isAtDigit_0 at hf
  refine lv_aload_n hx hb dX10_isAtDigit_0 rfl (lv_at hl 0 rfl) ?_
  refine va_get (ci := 10) (v := .int tape_at) (C := RX10) (T := TX10) (N := 3) hx hb hts in_X10_isAtDigit_X10 hown hK hw.1 0 rfl rfl 2 (by decide) (hts _ lk_X10_isAtDigit_0) (fun _ h9 => h9) rfl dX10_isAtDigit_1 ?_
  refine lv_aload_n hx hb dX10_isAtDigit_4 rfl (lv_at hl 0 rfl) ?_
  refine va_get (ci := 10) (v := .int tape_length) (C := RX10) (T := TX10) (N := 3) hx hb hts in_X10_isAtDigit_X10 hown hK hw.1 0 rfl rfl 1 (by decide) (hts _ lk_X10_isAtDigit_1) (fun _ h9 => h9) rfl dX10_isAtDigit_5 ?_
  refine lv_icmp_ge (tgt := 43) hx hb dX10_isAtDigit_8 (by decide) (fun hc => ?_) (fun hc => ?_)
  · have hf := (if_pos hc).symm.trans hf
    refine lv_iconst (v := (0 : Int32)) hx hb dX10_isAtDigit_43 (by decide) ?_
    cases hf
    exact retZ C hw dX10_isAtDigit_44 (by decide) rfl
  · have hf := (if_neg hc).symm.trans hf
    refine lv_aload_n hx hb dX10_isAtDigit_11 rfl (lv_at hl 0 rfl) ?_
    refine va_get (ci := 10) (v := .ref a_tape_bytes) (C := RX10) (T := TX10) (N := 3) hx hb hts in_X10_isAtDigit_X10 hown hK hw.1 0 rfl rfl 0 (by decide) (hts _ lk_X10_isAtDigit_2) (fun _ h9 => h9) rfl dX10_isAtDigit_12 ?_
    refine lv_aload_n hx hb dX10_isAtDigit_15 rfl (lv_at hl 0 rfl) ?_
    refine va_get (ci := 10) (v := .int tape_at) (C := RX10) (T := TX10) (N := 3) hx hb hts in_X10_isAtDigit_X10 hown hK hw.1 0 rfl rfl 2 (by decide) (hts _ lk_X10_isAtDigit_0) (fun _ h9 => h9) rfl dX10_isAtDigit_16 ?_
    obtain ⟨hc_1, hf⟩ := gd_some hf
    refine va_iald hx hb hK hw.1 1 0 rfl rfl (inB_in hc_1) dX10_isAtDigit_19 ?_
    refine lv_bipush (v := (48 : Int32)) hx hb dX10_isAtDigit_20 (by decide) ?_
    refine lv_icmp_lt (tgt := 43) hx hb dX10_isAtDigit_22 (by decide) (fun hc => ?_) (fun hc => ?_)
    · have hf := (if_pos hc).symm.trans hf
      refine lv_iconst (v := (0 : Int32)) hx hb dX10_isAtDigit_43 (by decide) ?_
      cases hf
      exact retZ C hw dX10_isAtDigit_44 (by decide) rfl
    · have hf := (if_neg hc).symm.trans hf
      refine lv_aload_n hx hb dX10_isAtDigit_25 rfl (lv_at hl 0 rfl) ?_
      refine va_get (ci := 10) (v := .ref a_tape_bytes) (C := RX10) (T := TX10) (N := 3) hx hb hts in_X10_isAtDigit_X10 hown hK hw.1 0 rfl rfl 0 (by decide) (hts _ lk_X10_isAtDigit_2) (fun _ h9 => h9) rfl dX10_isAtDigit_26 ?_
      refine lv_aload_n hx hb dX10_isAtDigit_29 rfl (lv_at hl 0 rfl) ?_
      refine va_get (ci := 10) (v := .int tape_at) (C := RX10) (T := TX10) (N := 3) hx hb hts in_X10_isAtDigit_X10 hown hK hw.1 0 rfl rfl 2 (by decide) (hts _ lk_X10_isAtDigit_0) (fun _ h9 => h9) rfl dX10_isAtDigit_30 ?_
      obtain ⟨hc_2, hf⟩ := gd_some hf
      refine va_iald hx hb hK hw.1 1 0 rfl rfl (inB_in hc_2) dX10_isAtDigit_33 ?_
      refine lv_bipush (v := (57 : Int32)) hx hb dX10_isAtDigit_34 (by decide) ?_
      refine lv_icmp_gt (tgt := 43) hx hb dX10_isAtDigit_36 (by decide) (fun hc => ?_) (fun hc => ?_)
      · have hf := (if_pos hc).symm.trans hf
        refine lv_iconst (v := (0 : Int32)) hx hb dX10_isAtDigit_43 (by decide) ?_
        cases hf
        exact retZ C hw dX10_isAtDigit_44 (by decide) rfl
      · have hf := (if_neg hc).symm.trans hf
        refine lv_iconst (v := (1 : Int32)) hx hb dX10_isAtDigit_39 (by decide) ?_
        refine lv_goto (tgt := 44) hx hb dX10_isAtDigit_40 (by decide) ?_
        cases hf
        exact retZ C hw dX10_isAtDigit_44 (by decide) rfl
set_option maxHeartbeats 4000000 in
set_option maxRecDepth 100000 in
theorem k_X10_isAtDigit {l : Launch} {sx : List sx_T} {D : va_G} {cI cZ cO : ClassId} (a_tape : Nat) (a_tape_bytes : Nat) (tape_length : Int32) (tape_at : Int32) (tape_bytes : Nat → Int32) (r0 : Int32) (hF : f_X10_isAtDigit tape_length tape_at tape_bytes = some r0) : CtI l yX10_isAtDigit wsX10_isAtDigit rm_X10_isAtDigit sx D (tyL cI cZ cO) [.ref a_tape] [(oX10 a_tape (.ref a_tape_bytes) (.int tape_length) (.int tape_at)), (a_tape_bytes, .inl (cI, 240, .inl tape_bytes))] r0 [(oX10 a_tape (.ref a_tape_bytes) (.int tape_length) (.int tape_at)), (a_tape_bytes, .inl (cI, 240, .inl tape_bytes))] := by
  refine ctI_of (cc := cX10_isAtDigit) (ret := (some .boolean)) (maxL := 1) (by decide) rfl (Nat.le_of_ble_eq_true rfl) ?_
  intro p e s m below meth c A ls C K hw hl
  exact q_X10_isAtDigit_0 C K a_tape a_tape_bytes tape_length tape_at tape_bytes r0  hF hw (lv_sub hl [0] rfl)
abbrev rm_X10_number : Room := { frames := 1, cells := 0, slots := 0, locals := 20 }
theorem in_X10_number_X10 : ∀ w ∈ u_ws RX10 TX10 3, w ∈ wsX10_number := fun w h => List.mem_cons_of_mem _ (bi_wsX100 w h)
theorem lk_X10_number_0 : Cond.fieldLink RX10 9 "GloveHouses$Tape" "bytes" "[I" ∈ wsX10_number := List.mem_cons_of_mem _ (bi_wsL_law0_r3 _ (List.mem_of_getElem? (i := 21) rfl))
theorem lk_X10_number_1 : Cond.fieldLink RX10 19 "GloveHouses$Tape" "at" "I" ∈ wsX10_number := List.mem_cons_of_mem _ (bi_wsL_law0_r10 _ (List.mem_of_getElem? (i := 8) rfl))
set_option maxHeartbeats 4000000 in
set_option maxRecDepth 100000 in
theorem q_X10_number_71 {p : Program} {l : Launch} {e : Env} {s : State} {m : MethodId} {args : Array Value} {below : List Frame} {meth : Method} {c : Code} {sx : List sx_T} {D : va_G} {cI cZ cO : ClassId} {A : Nat → Prop} (C : Cx p s m args meth c RX10 wsX10_number cX10_number 4 (some .int)) (K : Kx sx D (tyL cI cZ cO) A s) (a_tape : Nat) (a_tape_bytes : Nat) (tape_length : Int32) (tape_bytes : Nat → Int32) (r0 : Int32) (o_tape_at : Int32)    (tape_at : Int32) {H : Heap} {locs : List Loc} {ls : Array Slot} (hf : b_X10_number_71 tape_length tape_bytes  tape_at = some (r0, o_tape_at)) (hw : Wo D A s [(oX10 a_tape (.ref a_tape_bytes) (.int tape_length) (.int tape_at)), (a_tape_bytes, .inl (cI, 240, .inl tape_bytes))] H locs) (hl : lv_has ls 4 []) : W p l e rm_X10_number s m args below meth c H locs 0 0 (MQ below (QcI D A r0 [(oX10 a_tape (.ref a_tape_bytes) (.int tape_length) (.int o_tape_at)), (a_tape_bytes, .inl (cI, 240, .inl tape_bytes))]) args s 0 0 A) (F0 m 71 ls []) := by
  obtain ⟨hx, hb, hml, hown, hts, hr, hlk⟩ := id C
  obtain ⟨hK, hX, hA⟩ := id K
  unfold b_X10_number_71 at hf
  refine lv_iconst (v := (-1 : Int32)) hx hb dX10_number_71 (by decide) ?_
  refine lv_goto (tgt := 76) hx hb dX10_number_72 (by decide) ?_
  cases hf
  exact retI C hw dX10_number_76 rfl
set_option maxHeartbeats 4000000 in
set_option maxRecDepth 100000 in
theorem q_X10_number_60 {p : Program} {l : Launch} {e : Env} {s : State} {m : MethodId} {args : Array Value} {below : List Frame} {meth : Method} {c : Code} {sx : List sx_T} {D : va_G} {cI cZ cO : ClassId} {A : Nat → Prop} (C : Cx p s m args meth c RX10 wsX10_number cX10_number 4 (some .int)) (K : Kx sx D (tyL cI cZ cO) A s) (a_tape : Nat) (a_tape_bytes : Nat) (tape_length : Int32) (tape_bytes : Nat → Int32) (r0 : Int32) (o_tape_at : Int32)    (tape_at : Int32) (v2 : Int32) (v3 : Int32) {H : Heap} {locs : List Loc} {ls : Array Slot} (hf : b_X10_number_60 tape_length tape_bytes  tape_at v2 v3 = some (r0, o_tape_at)) (hw : Wo D A s [(oX10 a_tape (.ref a_tape_bytes) (.int tape_length) (.int tape_at)), (a_tape_bytes, .inl (cI, 240, .inl tape_bytes))] H locs) (hl : lv_has ls 4 [(0, .ref a_tape), (2, .int v2), (3, .int v3)]) : W p l e rm_X10_number s m args below meth c H locs 0 0 (MQ below (QcI D A r0 [(oX10 a_tape (.ref a_tape_bytes) (.int tape_length) (.int o_tape_at)), (a_tape_bytes, .inl (cI, 240, .inl tape_bytes))]) args s 0 0 A) (F0 m 60 ls []) := by
  obtain ⟨hx, hb, hml, hown, hts, hr, hlk⟩ := id C
  obtain ⟨hK, hX, hA⟩ := id K
  unfold b_X10_number_60 at hf
  refine lv_iload_n hx hb dX10_number_60 rfl (lv_at hl 2 rfl) ?_
  refine lv_if_eq (tgt := 71) hx hb dX10_number_61 (by decide) (fun hc => ?_) (fun hc => ?_)
  · have hf := (if_pos hc).symm.trans hf
    exact q_X10_number_71 C K a_tape a_tape_bytes tape_length tape_bytes r0 o_tape_at  tape_at hf hw (lv_sub hl [] rfl)
  · have hf := (if_neg hc).symm.trans hf
    refine lv_aload_n hx hb dX10_number_64 rfl (lv_at hl 0 rfl) ?_
    obtain ⟨r_1, hg_2, hf⟩ := ob1_some hf
    refine cl_ViA (As := []) (rest := []) C K hw (k_X10_isAtDigit a_tape a_tape_bytes tape_length tape_at tape_bytes r_1 hg_2) [0, 1] rfl (by decide) rfl rfl (ci := 10) (j := 0) rfl rfl (cwV 0 hts gX10_number_X10_isAtDigit rfl rfl rfl (by decide +kernel) ⟨Nat.le_of_ble_eq_true rfl, Nat.le_of_ble_eq_true rfl⟩) rfl hl rfl (Nat.le_of_ble_eq_true rfl) dX10_number_65 ⟨Nat.zero_le _, Nat.zero_le _⟩ (fun H locs hw => ?_)
    have hw : Wo D A s [(oX10 a_tape (.ref a_tape_bytes) (.int tape_length) (.int tape_at)), (a_tape_bytes, .inl (cI, 240, .inl tape_bytes))] H locs := hw
    refine lv_if_eq (tgt := 75) hx hb dX10_number_68 (by decide) (fun hc => ?_) (fun hc => ?_)
    · have hf := (if_pos hc).symm.trans hf
      refine lv_iload_n hx hb dX10_number_75 rfl (lv_at hl 1 rfl) ?_
      cases hf
      exact retI C hw dX10_number_76 rfl
    · have hf := (if_neg hc).symm.trans hf
      exact q_X10_number_71 C K a_tape a_tape_bytes tape_length tape_bytes r0 o_tape_at  tape_at hf hw (lv_sub hl [] rfl)
set_option maxHeartbeats 4000000 in
set_option maxRecDepth 100000 in
theorem q_X10_number_14 {p : Program} {l : Launch} {e : Env} {s : State} {m : MethodId} {args : Array Value} {below : List Frame} {meth : Method} {c : Code} {sx : List sx_T} {D : va_G} {cI cZ cO : ClassId} {A : Nat → Prop} (C : Cx p s m args meth c RX10 wsX10_number cX10_number 4 (some .int)) (K : Kx sx D (tyL cI cZ cO) A s) (a_tape : Nat) (a_tape_bytes : Nat) (tape_length : Int32) (tape_bytes : Nat → Int32) (r0 : Int32) (o_tape_at : Int32)   (k14 : Int32 → Int32 → Int32 → Int32 → Option (Int32 × Int32)) (hk14 : ∀ (tape_at : Int32) (v1 : Int32) (v2 : Int32) (v3 : Int32) (H : Heap) (locs : List Loc) (ls : Array Slot), k14 tape_at v1 v2 v3 = some (r0, o_tape_at) → Wo D A s [(oX10 a_tape (.ref a_tape_bytes) (.int tape_length) (.int tape_at)), (a_tape_bytes, .inl (cI, 240, .inl tape_bytes))] H locs → lv_has ls 4 [(0, .ref a_tape), (1, .int v1), (2, .int v2), (3, .int v3)] → W p l e rm_X10_number s m args below meth c H locs 0 0 (MQ below (QcI D A r0 [(oX10 a_tape (.ref a_tape_bytes) (.int tape_length) (.int o_tape_at)), (a_tape_bytes, .inl (cI, 240, .inl tape_bytes))]) args s 0 0 A) (F0 m 14 ls [])) (tape_at : Int32) (v1 : Int32) (v2 : Int32) (v3 : Int32) {H : Heap} {locs : List Loc} {ls : Array Slot} (hf : b_X10_number_14 tape_length tape_bytes k14 tape_at v1 v2 v3 = some (r0, o_tape_at)) (hw : Wo D A s [(oX10 a_tape (.ref a_tape_bytes) (.int tape_length) (.int tape_at)), (a_tape_bytes, .inl (cI, 240, .inl tape_bytes))] H locs) (hl : lv_has ls 4 [(0, .ref a_tape), (1, .int v1), (2, .int v2), (3, .int v3)]) : W p l e rm_X10_number s m args below meth c H locs 0 0 (MQ below (QcI D A r0 [(oX10 a_tape (.ref a_tape_bytes) (.int tape_length) (.int o_tape_at)), (a_tape_bytes, .inl (cI, 240, .inl tape_bytes))]) args s 0 0 A) (F0 m 14 ls []) := by
  obtain ⟨hx, hb, hml, hown, hts, hr, hlk⟩ := id C
  obtain ⟨hK, hX, hA⟩ := id K
  unfold b_X10_number_14 at hf
  refine lv_iload_n hx hb dX10_number_14 rfl (lv_at hl 3 rfl) ?_
  refine lv_iload_n hx hb dX10_number_15 rfl (lv_at hl 1 rfl) ?_
  refine lv_icmp_ge (tgt := 60) hx hb dX10_number_16 (by decide) (fun hc => ?_) (fun hc => ?_)
  · have hf := (if_pos hc).symm.trans hf
    exact q_X10_number_60 C K a_tape a_tape_bytes tape_length tape_bytes r0 o_tape_at  tape_at v2 v3 hf hw (lv_sub hl [0, 2, 3] rfl)
  · have hf := (if_neg hc).symm.trans hf
    refine lv_aload_n hx hb dX10_number_19 rfl (lv_at hl 0 rfl) ?_
    obtain ⟨r_1, hg_2, hf⟩ := ob1_some hf
    refine cl_ViA (As := []) (rest := []) C K hw (k_X10_isAtDigit a_tape a_tape_bytes tape_length tape_at tape_bytes r_1 hg_2) [0, 1] rfl (by decide) rfl rfl (ci := 10) (j := 0) rfl rfl (cwV 0 hts gX10_number_X10_isAtDigit rfl rfl rfl (by decide +kernel) ⟨Nat.le_of_ble_eq_true rfl, Nat.le_of_ble_eq_true rfl⟩) rfl hl rfl (Nat.le_of_ble_eq_true rfl) dX10_number_20 ⟨Nat.zero_le _, Nat.zero_le _⟩ (fun H locs hw => ?_)
    have hw : Wo D A s [(oX10 a_tape (.ref a_tape_bytes) (.int tape_length) (.int tape_at)), (a_tape_bytes, .inl (cI, 240, .inl tape_bytes))] H locs := hw
    refine lv_if_eq (tgt := 60) hx hb dX10_number_23 (by decide) (fun hc => ?_) (fun hc => ?_)
    · have hf := (if_pos hc).symm.trans hf
      exact q_X10_number_60 C K a_tape a_tape_bytes tape_length tape_bytes r0 o_tape_at  tape_at v2 v3 hf hw (lv_sub hl [0, 2, 3] rfl)
    · have hf := (if_neg hc).symm.trans hf
      refine lv_iload_n hx hb dX10_number_26 rfl (lv_at hl 2 rfl) ?_
      refine lv_bipush (v := (10 : Int32)) hx hb dX10_number_27 (by decide) ?_
      refine lv_imul hx hb dX10_number_29 ?_
      refine lv_aload_n hx hb dX10_number_30 rfl (lv_at hl 0 rfl) ?_
      refine va_get (ci := 10) (v := .ref a_tape_bytes) (C := RX10) (T := TX10) (N := 3) hx hb hts in_X10_number_X10 hown hK hw.1 0 rfl rfl 0 (by decide) (hts _ lk_X10_number_0) (fun _ h9 => h9) rfl dX10_number_31 ?_
      refine lv_aload_n hx hb dX10_number_34 rfl (lv_at hl 0 rfl) ?_
      refine va_get (ci := 10) (v := .int tape_at) (C := RX10) (T := TX10) (N := 3) hx hb hts in_X10_number_X10 hown hK hw.1 0 rfl rfl 2 (by decide) (hts _ lk_X10_number_1) (fun _ h9 => h9) rfl dX10_number_35 ?_
      obtain ⟨hc_3, hf⟩ := gd_some hf
      refine va_iald hx hb hK hw.1 1 0 rfl rfl (inB_in hc_3) dX10_number_38 ?_
      refine lv_iadd hx hb dX10_number_39 ?_
      refine lv_bipush (v := (48 : Int32)) hx hb dX10_number_40 (by decide) ?_
      refine lv_isub hx hb dX10_number_42 ?_
      obtain ⟨n_4, e_n_4, hf⟩ := bnd_some hf
      refine lv_nmi e_n_4 ?_
      refine lv_istore_n (lv' := [(2, .int n_4), (0, .ref a_tape), (1, .int v1), (3, .int v3)]) hx hb dX10_number_43 rfl hl (by decide) rfl (fun ls hl => ?_)
      refine lv_aload_n hx hb dX10_number_44 rfl (lv_at hl 1 rfl) ?_
      refine lv_dup hx hb dX10_number_45 rfl ?_
      refine va_get (ci := 10) (v := .int tape_at) (C := RX10) (T := TX10) (N := 3) hx hb hts in_X10_number_X10 hown hK hw.1 0 rfl rfl 2 (by decide) (hts _ lk_X10_number_1) (fun _ h9 => h9) rfl dX10_number_46 ?_
      refine lv_iconst (v := (1 : Int32)) hx hb dX10_number_49 (by decide) ?_
      refine lv_iadd hx hb dX10_number_50 ?_
      obtain ⟨at_5, e_at_5, hf⟩ := bnd_some hf
      refine lv_nmi e_at_5 ?_
      refine va_put (ci := 10) (v := .int at_5) (ty := .int) (C := RX10) (T := TX10) (N := 3) hx hb hts in_X10_number_X10 tyX10 tyX10_ok nmX10 hown hK hw.1 hw.2.1 hw.2.2 0 rfl rfl 2 (by decide) (hts _ lk_X10_number_1) (fun _ h9 => h9) rfl (by decide +kernel) rfl rfl (Nat.le_of_ble_eq_true rfl) dX10_number_51 (fun H locs hP hD hS => ?_)
      have hw : Wo D A s [(oX10 a_tape (.ref a_tape_bytes) (.int tape_length) (.int at_5)), (a_tape_bytes, .inl (cI, 240, .inl tape_bytes))] H locs := ⟨hP, hD, hS⟩
      obtain ⟨v3_6, e_v3_6, hf⟩ := bnd_some hf
      refine lv_iinc (v := v3_6) (lv' := [(3, .int v3_6), (2, .int n_4), (0, .ref a_tape), (1, .int v1)]) hx hb dX10_number_54 hl (k := 3) rfl (by rw [e_v3_6]; rfl) (by decide) rfl (fun ls hl => ?_)
      refine lv_goto (tgt := 14) hx hb dX10_number_57 (by decide) ?_
      exact hk14 at_5 v1 n_4 v3_6 _ _ _ hf hw (lv_sub hl [2, 3, 1, 0] rfl)
theorem qf_X10_number_14 {p : Program} {l : Launch} {e : Env} {s : State} {m : MethodId} {args : Array Value} {below : List Frame} {meth : Method} {c : Code} {sx : List sx_T} {D : va_G} {cI cZ cO : ClassId} {A : Nat → Prop} (C : Cx p s m args meth c RX10 wsX10_number cX10_number 4 (some .int)) (K : Kx sx D (tyL cI cZ cO) A s) (a_tape : Nat) (a_tape_bytes : Nat) (tape_length : Int32) (tape_bytes : Nat → Int32) (r0 : Int32) (o_tape_at : Int32)    (n : Nat) : ∀ (tape_at : Int32) (v1 : Int32) (v2 : Int32) (v3 : Int32) (H : Heap) (locs : List Loc) (ls : Array Slot), f_X10_number_14 tape_length tape_bytes  n tape_at v1 v2 v3 = some (r0, o_tape_at) → Wo D A s [(oX10 a_tape (.ref a_tape_bytes) (.int tape_length) (.int tape_at)), (a_tape_bytes, .inl (cI, 240, .inl tape_bytes))] H locs → lv_has ls 4 [(0, .ref a_tape), (1, .int v1), (2, .int v2), (3, .int v3)] → W p l e rm_X10_number s m args below meth c H locs 0 0 (MQ below (QcI D A r0 [(oX10 a_tape (.ref a_tape_bytes) (.int tape_length) (.int o_tape_at)), (a_tape_bytes, .inl (cI, 240, .inl tape_bytes))]) args s 0 0 A) (F0 m 14 ls []) := by
  induction n with
  | zero =>
    intro tape_at v1 v2 v3 H locs ls hf
    have h9 : (none : Option (Int32 × Int32)) = some (r0, o_tape_at) := hf
    cases h9
  | succ n ih =>
    intro tape_at v1 v2 v3 H locs ls hf hw hl
    exact q_X10_number_14 C K a_tape a_tape_bytes tape_length tape_bytes r0 o_tape_at  (f_X10_number_14 tape_length tape_bytes  n) ih tape_at v1 v2 v3 hf hw hl
set_option maxHeartbeats 4000000 in
set_option maxRecDepth 100000 in
theorem q_X10_number_0 {p : Program} {l : Launch} {e : Env} {s : State} {m : MethodId} {args : Array Value} {below : List Frame} {meth : Method} {c : Code} {sx : List sx_T} {D : va_G} {cI cZ cO : ClassId} {A : Nat → Prop} (C : Cx p s m args meth c RX10 wsX10_number cX10_number 4 (some .int)) (K : Kx sx D (tyL cI cZ cO) A s) (a_tape : Nat) (a_tape_bytes : Nat) (tape_length : Int32) (tape_bytes : Nat → Int32) (r0 : Int32) (o_tape_at : Int32)    (tape_at : Int32) (v1 : Int32) {H : Heap} {locs : List Loc} {ls : Array Slot} (hf : b_X10_number_0 tape_length tape_bytes  tape_at v1 = some (r0, o_tape_at)) (hw : Wo D A s [(oX10 a_tape (.ref a_tape_bytes) (.int tape_length) (.int tape_at)), (a_tape_bytes, .inl (cI, 240, .inl tape_bytes))] H locs) (hl : lv_has ls 4 [(0, .ref a_tape), (1, .int v1)]) : W p l e rm_X10_number s m args below meth c H locs 0 0 (MQ below (QcI D A r0 [(oX10 a_tape (.ref a_tape_bytes) (.int tape_length) (.int o_tape_at)), (a_tape_bytes, .inl (cI, 240, .inl tape_bytes))]) args s 0 0 A) (F0 m 0 ls []) := by
  obtain ⟨hx, hb, hml, hown, hts, hr, hlk⟩ := id C
  obtain ⟨hK, hX, hA⟩ := id K
  unfold b_X10_number_0 at hf
  refine lv_aload_n hx hb dX10_number_0 rfl (lv_at hl 0 rfl) ?_
  obtain ⟨r_1, tape_at_2, hg_3, hf⟩ := ob2_some hf
  refine cl_ViA (As := []) (rest := []) C K hw (k_X10_sign a_tape a_tape_bytes tape_length tape_bytes r_1 tape_at_2 tape_at hg_3) [0, 1] rfl (by decide) rfl rfl (ci := 10) (j := 0) rfl rfl (cwV 0 hts gX10_number_X10_sign rfl rfl rfl (by decide +kernel) ⟨Nat.le_of_ble_eq_true rfl, Nat.le_of_ble_eq_true rfl⟩) rfl hl rfl (Nat.le_of_ble_eq_true rfl) dX10_number_1 ⟨Nat.zero_le _, Nat.zero_le _⟩ (fun H locs hw => ?_)
  have hw : Wo D A s [(oX10 a_tape (.ref a_tape_bytes) (.int tape_length) (.int tape_at_2)), (a_tape_bytes, .inl (cI, 240, .inl tape_bytes))] H locs := hw
  refine lv_iconst (v := (-1 : Int32)) hx hb dX10_number_4 (by decide) ?_
  refine lv_icmp_ne (tgt := 10) hx hb dX10_number_5 (by decide) (fun hc => ?_) (fun hc => ?_)
  · have hf := (if_neg hc).symm.trans hf
    refine lv_iconst (v := (0 : Int32)) hx hb dX10_number_10 (by decide) ?_
    refine lv_istore_n (lv' := [(2, .int (0 : Int32)), (0, .ref a_tape), (1, .int v1)]) hx hb dX10_number_11 rfl hl (by decide) rfl (fun ls hl => ?_)
    refine lv_iconst (v := (0 : Int32)) hx hb dX10_number_12 (by decide) ?_
    refine lv_istore_n (lv' := [(3, .int (0 : Int32)), (2, .int (0 : Int32)), (0, .ref a_tape), (1, .int v1)]) hx hb dX10_number_13 rfl hl (by decide) rfl (fun ls hl => ?_)
    exact qf_X10_number_14 C K a_tape a_tape_bytes tape_length tape_bytes r0 o_tape_at  fu tape_at_2 v1 (0 : Int32) (0 : Int32) _ _ _ hf hw (lv_sub hl [2, 3, 1, 0] rfl)
  · have hf := (if_pos hc).symm.trans hf
    refine lv_iconst (v := (-1 : Int32)) hx hb dX10_number_8 (by decide) ?_
    cases hf
    exact retI C hw dX10_number_9 rfl
set_option maxHeartbeats 4000000 in
set_option maxRecDepth 100000 in
theorem k_X10_number {l : Launch} {sx : List sx_T} {D : va_G} {cI cZ cO : ClassId} (a_tape : Nat) (a_tape_bytes : Nat) (tape_length : Int32) (tape_bytes : Nat → Int32) (r0 : Int32) (o_tape_at : Int32) (tape_at : Int32) (p1 : Int32) (hF : f_X10_number tape_length tape_bytes tape_at p1 = some (r0, o_tape_at)) : CtI l yX10_number wsX10_number rm_X10_number sx D (tyL cI cZ cO) [.ref a_tape, .int p1] [(oX10 a_tape (.ref a_tape_bytes) (.int tape_length) (.int tape_at)), (a_tape_bytes, .inl (cI, 240, .inl tape_bytes))] r0 [(oX10 a_tape (.ref a_tape_bytes) (.int tape_length) (.int o_tape_at)), (a_tape_bytes, .inl (cI, 240, .inl tape_bytes))] := by
  refine ctI_of (cc := cX10_number) (ret := (some .int)) (maxL := 4) (by decide) rfl (Nat.le_of_ble_eq_true rfl) ?_
  intro p e s m below meth c A ls C K hw hl
  exact q_X10_number_0 C K a_tape a_tape_bytes tape_length tape_bytes r0 o_tape_at tape_at p1 hF hw (lv_sub hl [0, 1] rfl)
abbrev rm_X10_take : Room := { frames := 1, cells := 0, slots := 0, locals := 20 }
theorem in_X10_take_X10 : ∀ w ∈ u_ws RX10 TX10 3, w ∈ wsX10_take := fun w h => List.mem_cons_of_mem _ (bi_wsX100 w h)
theorem lk_X10_take_0 : Cond.fieldLink RX10 19 "GloveHouses$Tape" "at" "I" ∈ wsX10_take := List.mem_cons_of_mem _ (bi_wsL_law0_r10 _ (List.mem_of_getElem? (i := 8) rfl))
set_option maxHeartbeats 4000000 in
set_option maxRecDepth 100000 in
theorem q_X10_take_0 {p : Program} {l : Launch} {e : Env} {s : State} {m : MethodId} {args : Array Value} {below : List Frame} {meth : Method} {c : Code} {sx : List sx_T} {D : va_G} {cI cZ cO : ClassId} {A : Nat → Prop} (C : Cx p s m args meth c RX10 wsX10_take cX10_take 2 (some .boolean)) (K : Kx sx D (tyL cI cZ cO) A s) (a_tape : Nat) (a_tape_bytes : Nat) (tape_length : Int32) (tape_bytes : Nat → Int32) (r0 : Int32) (o_tape_at : Int32)    (tape_at : Int32) (v1 : Int32) {H : Heap} {locs : List Loc} {ls : Array Slot} (hf : b_X10_take_0 tape_length tape_bytes  tape_at v1 = some (r0, o_tape_at)) (hw : Wo D A s [(oX10 a_tape (.ref a_tape_bytes) (.int tape_length) (.int tape_at)), (a_tape_bytes, .inl (cI, 240, .inl tape_bytes))] H locs) (hl : lv_has ls 2 [(0, .ref a_tape), (1, .int v1)]) : W p l e rm_X10_take s m args below meth c H locs 0 0 (MQ below (QcI D A r0 [(oX10 a_tape (.ref a_tape_bytes) (.int tape_length) (.int o_tape_at)), (a_tape_bytes, .inl (cI, 240, .inl tape_bytes))]) args s 0 0 A) (F0 m 0 ls []) := by
  obtain ⟨hx, hb, hml, hown, hts, hr, hlk⟩ := id C
  obtain ⟨hK, hX, hA⟩ := id K
  unfold b_X10_take_0 at hf
  refine lv_aload_n hx hb dX10_take_0 rfl (lv_at hl 0 rfl) ?_
  obtain ⟨r_1, tape_at_2, hg_3, hf⟩ := ob2_some hf
  refine cl_ViA (As := []) (rest := []) C K hw (k_X10_sign a_tape a_tape_bytes tape_length tape_bytes r_1 tape_at_2 tape_at hg_3) [0, 1] rfl (by decide) rfl rfl (ci := 10) (j := 0) rfl rfl (cwV 0 hts gX10_take_X10_sign rfl rfl rfl (by decide +kernel) ⟨Nat.le_of_ble_eq_true rfl, Nat.le_of_ble_eq_true rfl⟩) rfl hl rfl (Nat.le_of_ble_eq_true rfl) dX10_take_1 ⟨Nat.zero_le _, Nat.zero_le _⟩ (fun H locs hw => ?_)
  have hw : Wo D A s [(oX10 a_tape (.ref a_tape_bytes) (.int tape_length) (.int tape_at_2)), (a_tape_bytes, .inl (cI, 240, .inl tape_bytes))] H locs := hw
  refine lv_iload_n hx hb dX10_take_4 rfl (lv_at hl 1 rfl) ?_
  refine lv_icmp_eq (tgt := 10) hx hb dX10_take_5 (by decide) (fun hc => ?_) (fun hc => ?_)
  · have hf := (if_pos hc).symm.trans hf
    refine lv_aload_n hx hb dX10_take_10 rfl (lv_at hl 0 rfl) ?_
    refine lv_dup hx hb dX10_take_11 rfl ?_
    refine va_get (ci := 10) (v := .int tape_at_2) (C := RX10) (T := TX10) (N := 3) hx hb hts in_X10_take_X10 hown hK hw.1 0 rfl rfl 2 (by decide) (hts _ lk_X10_take_0) (fun _ h9 => h9) rfl dX10_take_12 ?_
    refine lv_iconst (v := (1 : Int32)) hx hb dX10_take_15 (by decide) ?_
    refine lv_iadd hx hb dX10_take_16 ?_
    obtain ⟨at_4, e_at_4, hf⟩ := bnd_some hf
    refine lv_nmi e_at_4 ?_
    refine va_put (ci := 10) (v := .int at_4) (ty := .int) (C := RX10) (T := TX10) (N := 3) hx hb hts in_X10_take_X10 tyX10 tyX10_ok nmX10 hown hK hw.1 hw.2.1 hw.2.2 0 rfl rfl 2 (by decide) (hts _ lk_X10_take_0) (fun _ h9 => h9) rfl (by decide +kernel) rfl rfl (Nat.le_of_ble_eq_true rfl) dX10_take_17 (fun H locs hP hD hS => ?_)
    have hw : Wo D A s [(oX10 a_tape (.ref a_tape_bytes) (.int tape_length) (.int at_4)), (a_tape_bytes, .inl (cI, 240, .inl tape_bytes))] H locs := ⟨hP, hD, hS⟩
    refine lv_iconst (v := (1 : Int32)) hx hb dX10_take_20 (by decide) ?_
    cases hf
    exact retZ C hw dX10_take_21 (by decide) rfl
  · have hf := (if_neg hc).symm.trans hf
    refine lv_iconst (v := (0 : Int32)) hx hb dX10_take_8 (by decide) ?_
    cases hf
    exact retZ C hw dX10_take_9 (by decide) rfl
set_option maxHeartbeats 4000000 in
set_option maxRecDepth 100000 in
theorem k_X10_take {l : Launch} {sx : List sx_T} {D : va_G} {cI cZ cO : ClassId} (a_tape : Nat) (a_tape_bytes : Nat) (tape_length : Int32) (tape_bytes : Nat → Int32) (r0 : Int32) (o_tape_at : Int32) (tape_at : Int32) (p1 : Int32) (hF : f_X10_take tape_length tape_bytes tape_at p1 = some (r0, o_tape_at)) : CtI l yX10_take wsX10_take rm_X10_take sx D (tyL cI cZ cO) [.ref a_tape, .int p1] [(oX10 a_tape (.ref a_tape_bytes) (.int tape_length) (.int tape_at)), (a_tape_bytes, .inl (cI, 240, .inl tape_bytes))] r0 [(oX10 a_tape (.ref a_tape_bytes) (.int tape_length) (.int o_tape_at)), (a_tape_bytes, .inl (cI, 240, .inl tape_bytes))] := by
  refine ctI_of (cc := cX10_take) (ret := (some .boolean)) (maxL := 2) (by decide) rfl (Nat.le_of_ble_eq_true rfl) ?_
  intro p e s m below meth c A ls C K hw hl
  exact q_X10_take_0 C K a_tape a_tape_bytes tape_length tape_bytes r0 o_tape_at tape_at p1 hF hw (lv_sub hl [0, 1] rfl)
