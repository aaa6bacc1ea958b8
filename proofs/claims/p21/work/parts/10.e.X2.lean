abbrev rm_X2_letter : Room := { frames := 0, cells := 0, slots := 0, locals := 0 }
theorem lk_X2_letter_0 : Cond.fieldLink RX2 24 "GloveHouses$Laws" "LETTERS" "[C" ∈ wsX2_letter := List.mem_cons_of_mem _ (bi_wsL_law0_r5 _ (List.mem_of_getElem? (i := 4) rfl))
set_option maxHeartbeats 4000000 in
set_option maxRecDepth 100000 in
theorem q_X2_letter_2 {p : Program} {l : Launch} {e : Env} {s : State} {m : MethodId} {args : Array Value} {below : List Frame} {meth : Method} {c : Code} {sx : List sx_T} {D : va_G} {cI cZ cO : ClassId} {A : Nat → Prop} (C : Cx p s m args meth c RX2 wsX2_letter cX2_letter 2 (some .int)) (K : Kx sx D (tyL cI cZ cO) A s) (b_llT : Nat) (llT : Nat → Int32) (r0 : Int32) (hs_llT : (("GloveHouses$Laws", "LETTERS", "[C", b_llT, .char, 6, llT) : sx_T) ∈ sx)  (k2 : Int32 → Int32 → Option (Int32)) (hk2 : ∀ (v0 : Int32) (v1 : Int32) (H : Heap) (locs : List Loc) (ls : Array Slot), k2 v0 v1 = some r0 → Wo D A s [] H locs → lv_has ls 2 [(0, .int v0), (1, .int v1)] → W p l e rm_X2_letter s m args below meth c H locs 0 0 (MQ below (QcI D A r0 []) args s 0 0 A) (F0 m 2 ls [])) (v0 : Int32) (v1 : Int32) {H : Heap} {locs : List Loc} {ls : Array Slot} (hf : b_X2_letter_2 llT k2 v0 v1 = some r0) (hw : Wo D A s [] H locs) (hl : lv_has ls 2 [(0, .int v0), (1, .int v1)]) : W p l e rm_X2_letter s m args below meth c H locs 0 0 (MQ below (QcI D A r0 []) args s 0 0 A) (F0 m 2 ls []) := by
  obtain ⟨hx, hb, hml, hown, hts, hr, hlk⟩ := id C
  obtain ⟨hK, hX, hA⟩ := id K
  unfold b_X2_letter_2 at hf
  refine lv_iload_n hx hb dX2_letter_2 rfl (lv_at hl 1 rfl) ?_
  refine va_gets (v := .ref b_llT) hx hb (hX _ hs_llT).1 hw.2.2 hown (hts _ lk_X2_letter_0) (fun _ h9 => h9) dX2_letter_3 ?_
  refine sx_len (v := (6 : Int32)) hx hb (hX _ hs_llT).2.1 (hX _ hs_llT).2.2 hw.2.2 rfl dX2_letter_6 ?_
  refine lv_icmp_ge (tgt := 27) hx hb dX2_letter_7 (by decide) (fun hc => ?_) (fun hc => ?_)
  · have hf := (if_pos hc).symm.trans hf
    refine lv_iconst (v := (-1 : Int32)) hx hb dX2_letter_27 (by decide) ?_
    clear hk2; cases hf
    exact retI C hw dX2_letter_28 rfl
  · have hf := (if_neg hc).symm.trans hf
    refine va_gets (v := .ref b_llT) hx hb (hX _ hs_llT).1 hw.2.2 hown (hts _ lk_X2_letter_0) (fun _ h9 => h9) dX2_letter_10 ?_
    refine lv_iload_n hx hb dX2_letter_13 rfl (lv_at hl 1 rfl) ?_
    obtain ⟨hc_1, hf⟩ := gd_some hf
    refine sx_cld hx hb (hX _ hs_llT).2.1 (hX _ hs_llT).2.2 hw.2.2 (inB_in hc_1) dX2_letter_14 ?_
    refine lv_iload_n hx hb dX2_letter_15 rfl (lv_at hl 0 rfl) ?_
    refine lv_icmp_ne (tgt := 21) hx hb dX2_letter_16 (by decide) (fun hc => ?_) (fun hc => ?_)
    · have hf := (if_neg hc).symm.trans hf
      obtain ⟨v1_2, e_v1_2, hf⟩ := bnd_some hf
      refine lv_iinc (v := v1_2) (lv' := [(1, .int v1_2), (0, .int v0)]) hx hb dX2_letter_21 hl (k := 1) rfl (by rw [e_v1_2]; rfl) (by decide) rfl (fun ls hl => ?_)
      refine lv_goto (tgt := 2) hx hb dX2_letter_24 (by decide) ?_
      exact hk2 v0 v1_2 _ _ _ hf hw (lv_sub hl [1, 0] rfl)
    · have hf := (if_pos hc).symm.trans hf
      refine lv_iload_n hx hb dX2_letter_19 rfl (lv_at hl 1 rfl) ?_
      clear hk2; cases hf
      exact retI C hw dX2_letter_20 rfl
theorem qf_X2_letter_2 {p : Program} {l : Launch} {e : Env} {s : State} {m : MethodId} {args : Array Value} {below : List Frame} {meth : Method} {c : Code} {sx : List sx_T} {D : va_G} {cI cZ cO : ClassId} {A : Nat → Prop} (C : Cx p s m args meth c RX2 wsX2_letter cX2_letter 2 (some .int)) (K : Kx sx D (tyL cI cZ cO) A s) (b_llT : Nat) (llT : Nat → Int32) (r0 : Int32) (hs_llT : (("GloveHouses$Laws", "LETTERS", "[C", b_llT, .char, 6, llT) : sx_T) ∈ sx)   (n : Nat) : ∀ (v0 : Int32) (v1 : Int32) (H : Heap) (locs : List Loc) (ls : Array Slot), f_X2_letter_2 llT  n v0 v1 = some r0 → Wo D A s [] H locs → lv_has ls 2 [(0, .int v0), (1, .int v1)] → W p l e rm_X2_letter s m args below meth c H locs 0 0 (MQ below (QcI D A r0 []) args s 0 0 A) (F0 m 2 ls []) := by
  induction n with
  | zero =>
    intro v0 v1 H locs ls hf
    have h9 : (none : Option (Int32)) = some r0 := hf
    cases h9
  | succ n ih =>
    intro v0 v1 H locs ls hf hw hl
    exact q_X2_letter_2 C K b_llT llT r0 hs_llT  (f_X2_letter_2 llT  n) ih v0 v1 hf hw hl
set_option maxHeartbeats 4000000 in
set_option maxRecDepth 100000 in
theorem q_X2_letter_0 {p : Program} {l : Launch} {e : Env} {s : State} {m : MethodId} {args : Array Value} {below : List Frame} {meth : Method} {c : Code} {sx : List sx_T} {D : va_G} {cI cZ cO : ClassId} {A : Nat → Prop} (C : Cx p s m args meth c RX2 wsX2_letter cX2_letter 2 (some .int)) (K : Kx sx D (tyL cI cZ cO) A s) (b_llT : Nat) (llT : Nat → Int32) (r0 : Int32) (hs_llT : (("GloveHouses$Laws", "LETTERS", "[C", b_llT, .char, 6, llT) : sx_T) ∈ sx)   (v0 : Int32) {H : Heap} {locs : List Loc} {ls : Array Slot} (hf : b_X2_letter_0 llT  v0 = some r0) (hw : Wo D A s [] H locs) (hl : lv_has ls 2 [(0, .int v0)]) : W p l e rm_X2_letter s m args below meth c H locs 0 0 (MQ below (QcI D A r0 []) args s 0 0 A) (F0 m 0 ls []) := by
  obtain ⟨hx, hb, hml, hown, hts, hr, hlk⟩ := id C
  obtain ⟨hK, hX, hA⟩ := id K
  unfold b_X2_letter_0 at hf
  refine lv_iconst (v := (0 : Int32)) hx hb dX2_letter_0 (by decide) ?_
  refine lv_istore_n (lv' := [(1, .int (0 : Int32)), (0, .int v0)]) hx hb dX2_letter_1 rfl hl (by decide) rfl (fun ls hl => ?_)
  exact qf_X2_letter_2 C K b_llT llT r0 hs_llT  fu v0 (0 : Int32) _ _ _ hf hw (lv_sub hl [1, 0] rfl)
set_option maxHeartbeats 4000000 in
set_option maxRecDepth 100000 in
theorem k_X2_letter {l : Launch} {sx : List sx_T} {D : va_G} {cI cZ cO : ClassId} (b_llT : Nat) (llT : Nat → Int32) (r0 : Int32) (p1 : Int32) (hs_llT : (("GloveHouses$Laws", "LETTERS", "[C", b_llT, .char, 6, llT) : sx_T) ∈ sx) (hF : f_X2_letter llT p1 = some r0) : CtI l yX2_letter wsX2_letter rm_X2_letter sx D (tyL cI cZ cO) [.int p1] [] r0 [] := by
  refine ctI_of (cc := cX2_letter) (ret := (some .int)) (maxL := 2) (by decide) rfl (Nat.le_of_ble_eq_true rfl) ?_
  intro p e s m below meth c A ls C K hw hl
  exact q_X2_letter_0 C K b_llT llT r0 hs_llT p1 hF hw (lv_sub hl [0] rfl)
abbrev rm_X2_isFull : Room := { frames := 0, cells := 0, slots := 0, locals := 0 }
theorem in_X2_isFull_X2 : ∀ w ∈ u_ws RX2 TX2 6, w ∈ wsX2_isFull := fun w h => List.mem_cons_of_mem _ (bi_wsX20 w h)
theorem lk_X2_isFull_0 : Cond.fieldLink RX2 34 "GloveHouses$Laws" "size" "I" ∈ wsX2_isFull := List.mem_cons_of_mem _ (bi_wsL_law0_r21 _ (List.mem_of_getElem? (i := 14) rfl))
set_option maxHeartbeats 4000000 in
set_option maxRecDepth 100000 in
theorem q_X2_isFull_0 {p : Program} {l : Launch} {e : Env} {s : State} {m : MethodId} {args : Array Value} {below : List Frame} {meth : Method} {c : Code} {sx : List sx_T} {D : va_G} {cI cZ cO : ClassId} {A : Nat → Prop} (C : Cx p s m args meth c RX2 wsX2_isFull cX2_isFull 1 (some .boolean)) (K : Kx sx D (tyL cI cZ cO) A s) (a_laws : Nat) (a_laws_codes : Nat) (a_laws_lengths : Nat) (a_laws_letters : Nat) (a_laws_stack : Nat) (laws_size : Int32) (laws_holds : Int32) (r0 : Int32)     {H : Heap} {locs : List Loc} {ls : Array Slot} (hf : b_X2_isFull_0 laws_size   = some r0) (hw : Wo D A s [(oX2 a_laws (.int laws_size) (.int laws_holds) (.ref a_laws_codes) (.ref a_laws_lengths) (.ref a_laws_letters) (.ref a_laws_stack))] H locs) (hl : lv_has ls 1 [(0, .ref a_laws)]) : W p l e rm_X2_isFull s m args below meth c H locs 0 0 (MQ below (QcI D A r0 [(oX2 a_laws (.int laws_size) (.int laws_holds) (.ref a_laws_codes) (.ref a_laws_lengths) (.ref a_laws_letters) (.ref a_laws_stack))]) args s 0 0 A) (F0 m 0 ls []) := by
  obtain ⟨hx, hb, hml, hown, hts, hr, hlk⟩ := id C
  obtain ⟨hK, hX, hA⟩ := id K
  unfold b_X2_isFull_0 at hf
  refine lv_aload_n hx hb dX2_isFull_0 rfl (lv_at hl 0 rfl) ?_
  refine va_get (ci := 2) (v := .int laws_size) (C := RX2) (T := TX2) (N := 6) hx hb hts in_X2_isFull_X2 hown hK hw.1 0 rfl rfl 0 (by decide) (hts _ lk_X2_isFull_0) (fun _ h9 => h9) rfl dX2_isFull_1 ?_
  refine lv_iconst (v := (4 : Int32)) hx hb dX2_isFull_4 (by decide) ?_
  refine lv_icmp_lt (tgt := 12) hx hb dX2_isFull_5 (by decide) (fun hc => ?_) (fun hc => ?_)
  · have hf := (if_pos hc).symm.trans hf
    refine lv_iconst (v := (0 : Int32)) hx hb dX2_isFull_12 (by decide) ?_
    cases hf
    exact retZ C hw dX2_isFull_13 (by decide) rfl
  · have hf := (if_neg hc).symm.trans hf
    refine lv_iconst (v := (1 : Int32)) hx hb dX2_isFull_8 (by decide) ?_
    refine lv_goto (tgt := 13) hx hb dX2_isFull_9 (by decide) ?_
    cases hf
    exact retZ C hw dX2_isFull_13 (by decide) rfl
set_option maxHeartbeats 4000000 in
set_option maxRecDepth 100000 in
theorem k_X2_isFull {l : Launch} {sx : List sx_T} {D : va_G} {cI cZ cO : ClassId} (a_laws : Nat) (a_laws_codes : Nat) (a_laws_lengths : Nat) (a_laws_letters : Nat) (a_laws_stack : Nat) (laws_size : Int32) (laws_holds : Int32) (r0 : Int32) (hF : f_X2_isFull laws_size = some r0) : CtI l yX2_isFull wsX2_isFull rm_X2_isFull sx D (tyL cI cZ cO) [.ref a_laws] [(oX2 a_laws (.int laws_size) (.int laws_holds) (.ref a_laws_codes) (.ref a_laws_lengths) (.ref a_laws_letters) (.ref a_laws_stack))] r0 [(oX2 a_laws (.int laws_size) (.int laws_holds) (.ref a_laws_codes) (.ref a_laws_lengths) (.ref a_laws_letters) (.ref a_laws_stack))] := by
  refine ctI_of (cc := cX2_isFull) (ret := (some .boolean)) (maxL := 1) (by decide) rfl (Nat.le_of_ble_eq_true rfl) ?_
  intro p e s m below meth c A ls C K hw hl
  exact q_X2_isFull_0 C K a_laws a_laws_codes a_laws_lengths a_laws_letters a_laws_stack laws_size laws_holds r0  hF hw (lv_sub hl [0] rfl)
abbrev rm_X2_add : Room := { frames := 1, cells := 0, slots := 0, locals := 26 }
theorem in_X2_add_X2 : ∀ w ∈ u_ws RX2 TX2 6, w ∈ wsX2_add := fun w h => List.mem_cons_of_mem _ (bi_wsX20 w h)
theorem lk_X2_add_0 : Cond.fieldLink RX2 17 "GloveHouses$Laws" "codes" "[[I" ∈ wsX2_add := List.mem_cons_of_mem _ (bi_wsL_law0_r5 _ (List.mem_of_getElem? (i := 2) rfl))
theorem lk_X2_add_1 : Cond.fieldLink RX2 34 "GloveHouses$Laws" "size" "I" ∈ wsX2_add := List.mem_cons_of_mem _ (bi_wsL_law0_r21 _ (List.mem_of_getElem? (i := 14) rfl))
theorem lk_X2_add_2 : Cond.methodLink RX2 41 arraycopyName ∈ wsX2_add := List.mem_cons_of_mem _ (bi_wsL_law0_r22 _ (List.mem_of_getElem? (i := 2) rfl))
theorem lk_X2_add_3 : Cond.native arraycopyName ∈ wsX2_add := List.mem_cons_of_mem _ (bi_wsL_law0_r10 _ (List.mem_of_getElem? (i := 21) rfl))
theorem lk_X2_add_4 : Cond.static arraycopyName ∈ wsX2_add := List.mem_cons_of_mem _ (bi_wsL_law0_r10 _ (List.mem_of_getElem? (i := 22) rfl))
theorem lk_X2_add_5 : Cond.initialized "java/lang/System" ∈ wsX2_add := List.mem_cons_of_mem _ (bi_wsL_law0_r10 _ (List.mem_of_getElem? (i := 23) rfl))
theorem lk_X2_add_6 : Cond.fieldLink RX2 20 "GloveHouses$Laws" "lengths" "[I" ∈ wsX2_add := List.mem_cons_of_mem _ (bi_wsL_law0_r5 _ (List.mem_of_getElem? (i := 3) rfl))
set_option maxHeartbeats 4000000 in
set_option maxRecDepth 100000 in
theorem q_X2_add_0 {p : Program} {l : Launch} {e : Env} {s : State} {m : MethodId} {args : Array Value} {below : List Frame} {meth : Method} {c : Code} {sx : List sx_T} {D : va_G} {cI cZ cO : ClassId} {A : Nat → Prop} (C : Cx p s m args meth c RX2 wsX2_add cX2_add 3 none) (K : Kx sx D (tyL cI cZ cO) A s) (a_laws : Nat) (a_laws_codes : Nat) (a_laws_lengths : Nat) (a_laws_letters : Nat) (a_laws_stack : Nat) (a_ar : Nat) (rw : Nat → Nat) (ar_n : Nat) (laws_holds : Int32) (ar : Nat → Int32) (o_laws_size : Int32) (o_laws_lengths : Nat → Int32) (o_laws_c0 : Nat → Int32) (o_laws_c1 : Nat → Int32) (o_laws_c2 : Nat → Int32) (o_laws_c3 : Nat → Int32)    (laws_size : Int32) (laws_lengths : Nat → Int32) (laws_c0 : Nat → Int32) (laws_c1 : Nat → Int32) (laws_c2 : Nat → Int32) (laws_c3 : Nat → Int32) (v2 : Int32) {H : Heap} {locs : List Loc} {ls : Array Slot} (hf : b_X2_add_0 ar ar_n  laws_size laws_lengths laws_c0 laws_c1 laws_c2 laws_c3 v2 = some (o_laws_size, o_laws_lengths, o_laws_c0, o_laws_c1, o_laws_c2, o_laws_c3)) (hw : Wo D A s [(oX2 a_laws (.int laws_size) (.int laws_holds) (.ref a_laws_codes) (.ref a_laws_lengths) (.ref a_laws_letters) (.ref a_laws_stack)), (a_laws_codes, .inl (cO, 4, .inr (.inr (.inr (.inr (rwF rw)))))), (a_laws_lengths, .inl (cI, 4, .inl laws_lengths)), ((rw 0), .inl (cI, 241, .inl laws_c0)), ((rw 1), .inl (cI, 241, .inl laws_c1)), ((rw 2), .inl (cI, 241, .inl laws_c2)), ((rw 3), .inl (cI, 241, .inl laws_c3)), (a_ar, .inl (cI, ar_n, .inl ar))] H locs) (hl : lv_has ls 3 [(0, .ref a_laws), (1, .ref a_ar), (2, .int v2)]) : W p l e rm_X2_add s m args below meth c H locs 0 0 (MQ below (QcV D A [(oX2 a_laws (.int o_laws_size) (.int laws_holds) (.ref a_laws_codes) (.ref a_laws_lengths) (.ref a_laws_letters) (.ref a_laws_stack)), (a_laws_codes, .inl (cO, 4, .inr (.inr (.inr (.inr (rwF rw)))))), (a_laws_lengths, .inl (cI, 4, .inl o_laws_lengths)), ((rw 0), .inl (cI, 241, .inl o_laws_c0)), ((rw 1), .inl (cI, 241, .inl o_laws_c1)), ((rw 2), .inl (cI, 241, .inl o_laws_c2)), ((rw 3), .inl (cI, 241, .inl o_laws_c3)), (a_ar, .inl (cI, ar_n, .inl ar))]) args s 0 0 A) (F0 m 0 ls []) := by
  obtain ⟨hx, hb, hml, hown, hts, hr, hlk⟩ := id C
  obtain ⟨hK, hX, hA⟩ := id K
  unfold b_X2_add_0 at hf
  refine lv_aload_n hx hb dX2_add_0 rfl (lv_at hl 0 rfl) ?_
  obtain ⟨r_1, hg_2, hf⟩ := ob1_some hf
  refine cl_ViA (As := []) (rest := []) C K hw (k_X2_isFull a_laws a_laws_codes a_laws_lengths a_laws_letters a_laws_stack laws_size laws_holds r_1 hg_2) [0] rfl (by decide) rfl rfl (ci := 2) (j := 0) rfl rfl (cwV 0 hts gX2_add_X2_isFull rfl rfl rfl (by decide +kernel) ⟨Nat.le_of_ble_eq_true rfl, Nat.le_of_ble_eq_true rfl⟩) rfl hl rfl (Nat.le_of_ble_eq_true rfl) dX2_add_1 ⟨Nat.zero_le _, Nat.zero_le _⟩ (fun H locs hw => ?_)
  have hw : Wo D A s [(oX2 a_laws (.int laws_size) (.int laws_holds) (.ref a_laws_codes) (.ref a_laws_lengths) (.ref a_laws_letters) (.ref a_laws_stack)), (a_laws_codes, .inl (cO, 4, .inr (.inr (.inr (.inr (rwF rw)))))), (a_laws_lengths, .inl (cI, 4, .inl laws_lengths)), ((rw 0), .inl (cI, 241, .inl laws_c0)), ((rw 1), .inl (cI, 241, .inl laws_c1)), ((rw 2), .inl (cI, 241, .inl laws_c2)), ((rw 3), .inl (cI, 241, .inl laws_c3)), (a_ar, .inl (cI, ar_n, .inl ar))] H locs := hw
  refine lv_if_ne (tgt := 14) hx hb dX2_add_4 (by decide) (fun hc => ?_) (fun hc => ?_)
  · have hf := (if_neg hc).symm.trans hf
    cases hf
    exact retV C hw dX2_add_14
  · have hf := (if_pos hc).symm.trans hf
    refine lv_iload_n hx hb dX2_add_7 rfl (lv_at hl 2 rfl) ?_
    refine lv_sipush (v := (241 : Int32)) hx hb dX2_add_8 (by decide) ?_
    refine lv_icmp_le (tgt := 15) hx hb dX2_add_11 (by decide) (fun hc => ?_) (fun hc => ?_)
    · have hf := (if_pos hc).symm.trans hf
      refine lv_aload_n hx hb dX2_add_15 rfl (lv_at hl 1 rfl) ?_
      refine lv_iconst (v := (0 : Int32)) hx hb dX2_add_16 (by decide) ?_
      refine lv_aload_n hx hb dX2_add_17 rfl (lv_at hl 0 rfl) ?_
      refine va_get (ci := 2) (v := .ref a_laws_codes) (C := RX2) (T := TX2) (N := 6) hx hb hts in_X2_add_X2 hown hK hw.1 0 rfl rfl 2 (by decide) (hts _ lk_X2_add_0) (fun _ h9 => h9) rfl dX2_add_18 ?_
      refine lv_aload_n hx hb dX2_add_21 rfl (lv_at hl 0 rfl) ?_
      refine va_get (ci := 2) (v := .int laws_size) (C := RX2) (T := TX2) (N := 6) hx hb hts in_X2_add_X2 hown hK hw.1 0 rfl rfl 0 (by decide) (hts _ lk_X2_add_1) (fun _ h9 => h9) rfl dX2_add_22 ?_
      obtain ⟨hc_3, hf⟩ := gd_some hf
      refine ald4 hx hb hK hw.1 1 rfl hc_3 dX2_add_25 (fun h0 => ?_) (fun h0 h1 => ?_) (fun h0 h1 h2 => ?_) (fun h0 h1 h2 => ?_)
      · have hf := (if_pos h0).symm.trans hf
        refine lv_iconst (v := (0 : Int32)) hx hb dX2_add_26 (by decide) ?_
        refine lv_iload_n hx hb dX2_add_27 rfl (lv_at hl 2 rfl) ?_
        obtain ⟨hc_4, hf⟩ := gd_some hf
        obtain ⟨hc_5, hf⟩ := gd_some hf
        obtain ⟨laws_c0_6, e_laws_c0_6, hf⟩ := bnd_some hf
        refine va_copyi hx hb (hml.trans hl.1.symm) hown (hts _ lk_X2_add_2) (hts _ lk_X2_add_3) (hts _ lk_X2_add_4) (hts _ lk_X2_add_5) hK hw.1 hw.2.1 hw.2.2 7 3 0 0 rfl rfl rfl rfl rfl (spB_sp hc_4).1 (spB_sp hc_5).1 (spB_sp hc_4).2.1 (spB_sp hc_4).2.2 (spB_sp hc_5).2.2 (fun _ _ => rfl) (Nat.le_of_ble_eq_true rfl) (Nat.le_of_ble_eq_true rfl) dX2_add_28 (fun H locs hP hD hS => ?_)
        have hw : Wo D A s [(oX2 a_laws (.int laws_size) (.int laws_holds) (.ref a_laws_codes) (.ref a_laws_lengths) (.ref a_laws_letters) (.ref a_laws_stack)), (a_laws_codes, .inl (cO, 4, .inr (.inr (.inr (.inr (rwF rw)))))), (a_laws_lengths, .inl (cI, 4, .inl laws_lengths)), ((rw 0), .inl (cI, 241, .inl laws_c0_6)), ((rw 1), .inl (cI, 241, .inl laws_c1)), ((rw 2), .inl (cI, 241, .inl laws_c2)), ((rw 3), .inl (cI, 241, .inl laws_c3)), (a_ar, .inl (cI, ar_n, .inl ar))] H locs := by rw [e_laws_c0_6]; exact ⟨hP, hD, hS⟩
        refine lv_aload_n hx hb dX2_add_31 rfl (lv_at hl 0 rfl) ?_
        refine va_get (ci := 2) (v := .ref a_laws_lengths) (C := RX2) (T := TX2) (N := 6) hx hb hts in_X2_add_X2 hown hK hw.1 0 rfl rfl 3 (by decide) (hts _ lk_X2_add_6) (fun _ h9 => h9) rfl dX2_add_32 ?_
        refine lv_aload_n hx hb dX2_add_35 rfl (lv_at hl 0 rfl) ?_
        refine va_get (ci := 2) (v := .int laws_size) (C := RX2) (T := TX2) (N := 6) hx hb hts in_X2_add_X2 hown hK hw.1 0 rfl rfl 0 (by decide) (hts _ lk_X2_add_1) (fun _ h9 => h9) rfl dX2_add_36 ?_
        refine lv_iload_n hx hb dX2_add_39 rfl (lv_at hl 2 rfl) ?_
        obtain ⟨hc_7, hf⟩ := gd_some hf
        obtain ⟨laws_lengths_8, e_laws_lengths_8, hf⟩ := bnd_some hf
        refine va_iast hx hb hK hw.1 hw.2.1 hw.2.2 2 0 rfl rfl (inB_in hc_7) dX2_add_40 (fun H locs hP hD hS => ?_)
        have hw : Wo D A s [(oX2 a_laws (.int laws_size) (.int laws_holds) (.ref a_laws_codes) (.ref a_laws_lengths) (.ref a_laws_letters) (.ref a_laws_stack)), (a_laws_codes, .inl (cO, 4, .inr (.inr (.inr (.inr (rwF rw)))))), (a_laws_lengths, .inl (cI, 4, .inl laws_lengths_8)), ((rw 0), .inl (cI, 241, .inl laws_c0_6)), ((rw 1), .inl (cI, 241, .inl laws_c1)), ((rw 2), .inl (cI, 241, .inl laws_c2)), ((rw 3), .inl (cI, 241, .inl laws_c3)), (a_ar, .inl (cI, ar_n, .inl ar))] H locs := by rw [e_laws_lengths_8]; exact ⟨hP, hD, hS⟩
        refine lv_aload_n hx hb dX2_add_41 rfl (lv_at hl 0 rfl) ?_
        refine lv_dup hx hb dX2_add_42 rfl ?_
        refine va_get (ci := 2) (v := .int laws_size) (C := RX2) (T := TX2) (N := 6) hx hb hts in_X2_add_X2 hown hK hw.1 0 rfl rfl 0 (by decide) (hts _ lk_X2_add_1) (fun _ h9 => h9) rfl dX2_add_43 ?_
        refine lv_iconst (v := (1 : Int32)) hx hb dX2_add_46 (by decide) ?_
        refine lv_iadd hx hb dX2_add_47 ?_
        obtain ⟨size_9, e_size_9, hf⟩ := bnd_some hf
        refine lv_nmi e_size_9 ?_
        refine va_put (ci := 2) (v := .int size_9) (ty := .int) (C := RX2) (T := TX2) (N := 6) hx hb hts in_X2_add_X2 tyX2 tyX2_ok nmX2 hown hK hw.1 hw.2.1 hw.2.2 0 rfl rfl 0 (by decide) (hts _ lk_X2_add_1) (fun _ h9 => h9) rfl (by decide +kernel) rfl rfl (Nat.le_of_ble_eq_true rfl) dX2_add_48 (fun H locs hP hD hS => ?_)
        have hw : Wo D A s [(oX2 a_laws (.int size_9) (.int laws_holds) (.ref a_laws_codes) (.ref a_laws_lengths) (.ref a_laws_letters) (.ref a_laws_stack)), (a_laws_codes, .inl (cO, 4, .inr (.inr (.inr (.inr (rwF rw)))))), (a_laws_lengths, .inl (cI, 4, .inl laws_lengths_8)), ((rw 0), .inl (cI, 241, .inl laws_c0_6)), ((rw 1), .inl (cI, 241, .inl laws_c1)), ((rw 2), .inl (cI, 241, .inl laws_c2)), ((rw 3), .inl (cI, 241, .inl laws_c3)), (a_ar, .inl (cI, ar_n, .inl ar))] H locs := ⟨hP, hD, hS⟩
        cases hf
        exact retV C hw dX2_add_51
      · have hf := (if_neg h0).symm.trans hf
        have hf := (if_pos h1).symm.trans hf
        refine lv_iconst (v := (0 : Int32)) hx hb dX2_add_26 (by decide) ?_
        refine lv_iload_n hx hb dX2_add_27 rfl (lv_at hl 2 rfl) ?_
        obtain ⟨hc_10, hf⟩ := gd_some hf
        obtain ⟨hc_11, hf⟩ := gd_some hf
        obtain ⟨laws_c1_12, e_laws_c1_12, hf⟩ := bnd_some hf
        refine va_copyi hx hb (hml.trans hl.1.symm) hown (hts _ lk_X2_add_2) (hts _ lk_X2_add_3) (hts _ lk_X2_add_4) (hts _ lk_X2_add_5) hK hw.1 hw.2.1 hw.2.2 7 4 0 0 rfl rfl rfl rfl rfl (spB_sp hc_10).1 (spB_sp hc_11).1 (spB_sp hc_10).2.1 (spB_sp hc_10).2.2 (spB_sp hc_11).2.2 (fun _ _ => rfl) (Nat.le_of_ble_eq_true rfl) (Nat.le_of_ble_eq_true rfl) dX2_add_28 (fun H locs hP hD hS => ?_)
        have hw : Wo D A s [(oX2 a_laws (.int laws_size) (.int laws_holds) (.ref a_laws_codes) (.ref a_laws_lengths) (.ref a_laws_letters) (.ref a_laws_stack)), (a_laws_codes, .inl (cO, 4, .inr (.inr (.inr (.inr (rwF rw)))))), (a_laws_lengths, .inl (cI, 4, .inl laws_lengths)), ((rw 0), .inl (cI, 241, .inl laws_c0)), ((rw 1), .inl (cI, 241, .inl laws_c1_12)), ((rw 2), .inl (cI, 241, .inl laws_c2)), ((rw 3), .inl (cI, 241, .inl laws_c3)), (a_ar, .inl (cI, ar_n, .inl ar))] H locs := by rw [e_laws_c1_12]; exact ⟨hP, hD, hS⟩
        refine lv_aload_n hx hb dX2_add_31 rfl (lv_at hl 0 rfl) ?_
        refine va_get (ci := 2) (v := .ref a_laws_lengths) (C := RX2) (T := TX2) (N := 6) hx hb hts in_X2_add_X2 hown hK hw.1 0 rfl rfl 3 (by decide) (hts _ lk_X2_add_6) (fun _ h9 => h9) rfl dX2_add_32 ?_
        refine lv_aload_n hx hb dX2_add_35 rfl (lv_at hl 0 rfl) ?_
        refine va_get (ci := 2) (v := .int laws_size) (C := RX2) (T := TX2) (N := 6) hx hb hts in_X2_add_X2 hown hK hw.1 0 rfl rfl 0 (by decide) (hts _ lk_X2_add_1) (fun _ h9 => h9) rfl dX2_add_36 ?_
        refine lv_iload_n hx hb dX2_add_39 rfl (lv_at hl 2 rfl) ?_
        obtain ⟨hc_13, hf⟩ := gd_some hf
        obtain ⟨laws_lengths_14, e_laws_lengths_14, hf⟩ := bnd_some hf
        refine va_iast hx hb hK hw.1 hw.2.1 hw.2.2 2 0 rfl rfl (inB_in hc_13) dX2_add_40 (fun H locs hP hD hS => ?_)
        have hw : Wo D A s [(oX2 a_laws (.int laws_size) (.int laws_holds) (.ref a_laws_codes) (.ref a_laws_lengths) (.ref a_laws_letters) (.ref a_laws_stack)), (a_laws_codes, .inl (cO, 4, .inr (.inr (.inr (.inr (rwF rw)))))), (a_laws_lengths, .inl (cI, 4, .inl laws_lengths_14)), ((rw 0), .inl (cI, 241, .inl laws_c0)), ((rw 1), .inl (cI, 241, .inl laws_c1_12)), ((rw 2), .inl (cI, 241, .inl laws_c2)), ((rw 3), .inl (cI, 241, .inl laws_c3)), (a_ar, .inl (cI, ar_n, .inl ar))] H locs := by rw [e_laws_lengths_14]; exact ⟨hP, hD, hS⟩
        refine lv_aload_n hx hb dX2_add_41 rfl (lv_at hl 0 rfl) ?_
        refine lv_dup hx hb dX2_add_42 rfl ?_
        refine va_get (ci := 2) (v := .int laws_size) (C := RX2) (T := TX2) (N := 6) hx hb hts in_X2_add_X2 hown hK hw.1 0 rfl rfl 0 (by decide) (hts _ lk_X2_add_1) (fun _ h9 => h9) rfl dX2_add_43 ?_
        refine lv_iconst (v := (1 : Int32)) hx hb dX2_add_46 (by decide) ?_
        refine lv_iadd hx hb dX2_add_47 ?_
        obtain ⟨size_15, e_size_15, hf⟩ := bnd_some hf
        refine lv_nmi e_size_15 ?_
        refine va_put (ci := 2) (v := .int size_15) (ty := .int) (C := RX2) (T := TX2) (N := 6) hx hb hts in_X2_add_X2 tyX2 tyX2_ok nmX2 hown hK hw.1 hw.2.1 hw.2.2 0 rfl rfl 0 (by decide) (hts _ lk_X2_add_1) (fun _ h9 => h9) rfl (by decide +kernel) rfl rfl (Nat.le_of_ble_eq_true rfl) dX2_add_48 (fun H locs hP hD hS => ?_)
        have hw : Wo D A s [(oX2 a_laws (.int size_15) (.int laws_holds) (.ref a_laws_codes) (.ref a_laws_lengths) (.ref a_laws_letters) (.ref a_laws_stack)), (a_laws_codes, .inl (cO, 4, .inr (.inr (.inr (.inr (rwF rw)))))), (a_laws_lengths, .inl (cI, 4, .inl laws_lengths_14)), ((rw 0), .inl (cI, 241, .inl laws_c0)), ((rw 1), .inl (cI, 241, .inl laws_c1_12)), ((rw 2), .inl (cI, 241, .inl laws_c2)), ((rw 3), .inl (cI, 241, .inl laws_c3)), (a_ar, .inl (cI, ar_n, .inl ar))] H locs := ⟨hP, hD, hS⟩
        cases hf
        exact retV C hw dX2_add_51
      · have hf := (if_neg h0).symm.trans hf
        have hf := (if_neg h1).symm.trans hf
        have hf := (if_pos h2).symm.trans hf
        refine lv_iconst (v := (0 : Int32)) hx hb dX2_add_26 (by decide) ?_
        refine lv_iload_n hx hb dX2_add_27 rfl (lv_at hl 2 rfl) ?_
        obtain ⟨hc_16, hf⟩ := gd_some hf
        obtain ⟨hc_17, hf⟩ := gd_some hf
        obtain ⟨laws_c2_18, e_laws_c2_18, hf⟩ := bnd_some hf
        refine va_copyi hx hb (hml.trans hl.1.symm) hown (hts _ lk_X2_add_2) (hts _ lk_X2_add_3) (hts _ lk_X2_add_4) (hts _ lk_X2_add_5) hK hw.1 hw.2.1 hw.2.2 7 5 0 0 rfl rfl rfl rfl rfl (spB_sp hc_16).1 (spB_sp hc_17).1 (spB_sp hc_16).2.1 (spB_sp hc_16).2.2 (spB_sp hc_17).2.2 (fun _ _ => rfl) (Nat.le_of_ble_eq_true rfl) (Nat.le_of_ble_eq_true rfl) dX2_add_28 (fun H locs hP hD hS => ?_)
        have hw : Wo D A s [(oX2 a_laws (.int laws_size) (.int laws_holds) (.ref a_laws_codes) (.ref a_laws_lengths) (.ref a_laws_letters) (.ref a_laws_stack)), (a_laws_codes, .inl (cO, 4, .inr (.inr (.inr (.inr (rwF rw)))))), (a_laws_lengths, .inl (cI, 4, .inl laws_lengths)), ((rw 0), .inl (cI, 241, .inl laws_c0)), ((rw 1), .inl (cI, 241, .inl laws_c1)), ((rw 2), .inl (cI, 241, .inl laws_c2_18)), ((rw 3), .inl (cI, 241, .inl laws_c3)), (a_ar, .inl (cI, ar_n, .inl ar))] H locs := by rw [e_laws_c2_18]; exact ⟨hP, hD, hS⟩
        refine lv_aload_n hx hb dX2_add_31 rfl (lv_at hl 0 rfl) ?_
        refine va_get (ci := 2) (v := .ref a_laws_lengths) (C := RX2) (T := TX2) (N := 6) hx hb hts in_X2_add_X2 hown hK hw.1 0 rfl rfl 3 (by decide) (hts _ lk_X2_add_6) (fun _ h9 => h9) rfl dX2_add_32 ?_
        refine lv_aload_n hx hb dX2_add_35 rfl (lv_at hl 0 rfl) ?_
        refine va_get (ci := 2) (v := .int laws_size) (C := RX2) (T := TX2) (N := 6) hx hb hts in_X2_add_X2 hown hK hw.1 0 rfl rfl 0 (by decide) (hts _ lk_X2_add_1) (fun _ h9 => h9) rfl dX2_add_36 ?_
        refine lv_iload_n hx hb dX2_add_39 rfl (lv_at hl 2 rfl) ?_
        obtain ⟨hc_19, hf⟩ := gd_some hf
        obtain ⟨laws_lengths_20, e_laws_lengths_20, hf⟩ := bnd_some hf
        refine va_iast hx hb hK hw.1 hw.2.1 hw.2.2 2 0 rfl rfl (inB_in hc_19) dX2_add_40 (fun H locs hP hD hS => ?_)
        have hw : Wo D A s [(oX2 a_laws (.int laws_size) (.int laws_holds) (.ref a_laws_codes) (.ref a_laws_lengths) (.ref a_laws_letters) (.ref a_laws_stack)), (a_laws_codes, .inl (cO, 4, .inr (.inr (.inr (.inr (rwF rw)))))), (a_laws_lengths, .inl (cI, 4, .inl laws_lengths_20)), ((rw 0), .inl (cI, 241, .inl laws_c0)), ((rw 1), .inl (cI, 241, .inl laws_c1)), ((rw 2), .inl (cI, 241, .inl laws_c2_18)), ((rw 3), .inl (cI, 241, .inl laws_c3)), (a_ar, .inl (cI, ar_n, .inl ar))] H locs := by rw [e_laws_lengths_20]; exact ⟨hP, hD, hS⟩
        refine lv_aload_n hx hb dX2_add_41 rfl (lv_at hl 0 rfl) ?_
        refine lv_dup hx hb dX2_add_42 rfl ?_
        refine va_get (ci := 2) (v := .int laws_size) (C := RX2) (T := TX2) (N := 6) hx hb hts in_X2_add_X2 hown hK hw.1 0 rfl rfl 0 (by decide) (hts _ lk_X2_add_1) (fun _ h9 => h9) rfl dX2_add_43 ?_
        refine lv_iconst (v := (1 : Int32)) hx hb dX2_add_46 (by decide) ?_
        refine lv_iadd hx hb dX2_add_47 ?_
        obtain ⟨size_21, e_size_21, hf⟩ := bnd_some hf
        refine lv_nmi e_size_21 ?_
        refine va_put (ci := 2) (v := .int size_21) (ty := .int) (C := RX2) (T := TX2) (N := 6) hx hb hts in_X2_add_X2 tyX2 tyX2_ok nmX2 hown hK hw.1 hw.2.1 hw.2.2 0 rfl rfl 0 (by decide) (hts _ lk_X2_add_1) (fun _ h9 => h9) rfl (by decide +kernel) rfl rfl (Nat.le_of_ble_eq_true rfl) dX2_add_48 (fun H locs hP hD hS => ?_)
        have hw : Wo D A s [(oX2 a_laws (.int size_21) (.int laws_holds) (.ref a_laws_codes) (.ref a_laws_lengths) (.ref a_laws_letters) (.ref a_laws_stack)), (a_laws_codes, .inl (cO, 4, .inr (.inr (.inr (.inr (rwF rw)))))), (a_laws_lengths, .inl (cI, 4, .inl laws_lengths_20)), ((rw 0), .inl (cI, 241, .inl laws_c0)), ((rw 1), .inl (cI, 241, .inl laws_c1)), ((rw 2), .inl (cI, 241, .inl laws_c2_18)), ((rw 3), .inl (cI, 241, .inl laws_c3)), (a_ar, .inl (cI, ar_n, .inl ar))] H locs := ⟨hP, hD, hS⟩
        cases hf
        exact retV C hw dX2_add_51
      · have hf := (if_neg h0).symm.trans hf
        have hf := (if_neg h1).symm.trans hf
        have hf := (if_neg h2).symm.trans hf
        refine lv_iconst (v := (0 : Int32)) hx hb dX2_add_26 (by decide) ?_
        refine lv_iload_n hx hb dX2_add_27 rfl (lv_at hl 2 rfl) ?_
        obtain ⟨hc_22, hf⟩ := gd_some hf
        obtain ⟨hc_23, hf⟩ := gd_some hf
        obtain ⟨laws_c3_24, e_laws_c3_24, hf⟩ := bnd_some hf
        refine va_copyi hx hb (hml.trans hl.1.symm) hown (hts _ lk_X2_add_2) (hts _ lk_X2_add_3) (hts _ lk_X2_add_4) (hts _ lk_X2_add_5) hK hw.1 hw.2.1 hw.2.2 7 6 0 0 rfl rfl rfl rfl rfl (spB_sp hc_22).1 (spB_sp hc_23).1 (spB_sp hc_22).2.1 (spB_sp hc_22).2.2 (spB_sp hc_23).2.2 (fun _ _ => rfl) (Nat.le_of_ble_eq_true rfl) (Nat.le_of_ble_eq_true rfl) dX2_add_28 (fun H locs hP hD hS => ?_)
        have hw : Wo D A s [(oX2 a_laws (.int laws_size) (.int laws_holds) (.ref a_laws_codes) (.ref a_laws_lengths) (.ref a_laws_letters) (.ref a_laws_stack)), (a_laws_codes, .inl (cO, 4, .inr (.inr (.inr (.inr (rwF rw)))))), (a_laws_lengths, .inl (cI, 4, .inl laws_lengths)), ((rw 0), .inl (cI, 241, .inl laws_c0)), ((rw 1), .inl (cI, 241, .inl laws_c1)), ((rw 2), .inl (cI, 241, .inl laws_c2)), ((rw 3), .inl (cI, 241, .inl laws_c3_24)), (a_ar, .inl (cI, ar_n, .inl ar))] H locs := by rw [e_laws_c3_24]; exact ⟨hP, hD, hS⟩
        refine lv_aload_n hx hb dX2_add_31 rfl (lv_at hl 0 rfl) ?_
        refine va_get (ci := 2) (v := .ref a_laws_lengths) (C := RX2) (T := TX2) (N := 6) hx hb hts in_X2_add_X2 hown hK hw.1 0 rfl rfl 3 (by decide) (hts _ lk_X2_add_6) (fun _ h9 => h9) rfl dX2_add_32 ?_
        refine lv_aload_n hx hb dX2_add_35 rfl (lv_at hl 0 rfl) ?_
        refine va_get (ci := 2) (v := .int laws_size) (C := RX2) (T := TX2) (N := 6) hx hb hts in_X2_add_X2 hown hK hw.1 0 rfl rfl 0 (by decide) (hts _ lk_X2_add_1) (fun _ h9 => h9) rfl dX2_add_36 ?_
        refine lv_iload_n hx hb dX2_add_39 rfl (lv_at hl 2 rfl) ?_
        obtain ⟨hc_25, hf⟩ := gd_some hf
        obtain ⟨laws_lengths_26, e_laws_lengths_26, hf⟩ := bnd_some hf
        refine va_iast hx hb hK hw.1 hw.2.1 hw.2.2 2 0 rfl rfl (inB_in hc_25) dX2_add_40 (fun H locs hP hD hS => ?_)
        have hw : Wo D A s [(oX2 a_laws (.int laws_size) (.int laws_holds) (.ref a_laws_codes) (.ref a_laws_lengths) (.ref a_laws_letters) (.ref a_laws_stack)), (a_laws_codes, .inl (cO, 4, .inr (.inr (.inr (.inr (rwF rw)))))), (a_laws_lengths, .inl (cI, 4, .inl laws_lengths_26)), ((rw 0), .inl (cI, 241, .inl laws_c0)), ((rw 1), .inl (cI, 241, .inl laws_c1)), ((rw 2), .inl (cI, 241, .inl laws_c2)), ((rw 3), .inl (cI, 241, .inl laws_c3_24)), (a_ar, .inl (cI, ar_n, .inl ar))] H locs := by rw [e_laws_lengths_26]; exact ⟨hP, hD, hS⟩
        refine lv_aload_n hx hb dX2_add_41 rfl (lv_at hl 0 rfl) ?_
        refine lv_dup hx hb dX2_add_42 rfl ?_
        refine va_get (ci := 2) (v := .int laws_size) (C := RX2) (T := TX2) (N := 6) hx hb hts in_X2_add_X2 hown hK hw.1 0 rfl rfl 0 (by decide) (hts _ lk_X2_add_1) (fun _ h9 => h9) rfl dX2_add_43 ?_
        refine lv_iconst (v := (1 : Int32)) hx hb dX2_add_46 (by decide) ?_
        refine lv_iadd hx hb dX2_add_47 ?_
        obtain ⟨size_27, e_size_27, hf⟩ := bnd_some hf
        refine lv_nmi e_size_27 ?_
        refine va_put (ci := 2) (v := .int size_27) (ty := .int) (C := RX2) (T := TX2) (N := 6) hx hb hts in_X2_add_X2 tyX2 tyX2_ok nmX2 hown hK hw.1 hw.2.1 hw.2.2 0 rfl rfl 0 (by decide) (hts _ lk_X2_add_1) (fun _ h9 => h9) rfl (by decide +kernel) rfl rfl (Nat.le_of_ble_eq_true rfl) dX2_add_48 (fun H locs hP hD hS => ?_)
        have hw : Wo D A s [(oX2 a_laws (.int size_27) (.int laws_holds) (.ref a_laws_codes) (.ref a_laws_lengths) (.ref a_laws_letters) (.ref a_laws_stack)), (a_laws_codes, .inl (cO, 4, .inr (.inr (.inr (.inr (rwF rw)))))), (a_laws_lengths, .inl (cI, 4, .inl laws_lengths_26)), ((rw 0), .inl (cI, 241, .inl laws_c0)), ((rw 1), .inl (cI, 241, .inl laws_c1)), ((rw 2), .inl (cI, 241, .inl laws_c2)), ((rw 3), .inl (cI, 241, .inl laws_c3_24)), (a_ar, .inl (cI, ar_n, .inl ar))] H locs := ⟨hP, hD, hS⟩
        cases hf
        exact retV C hw dX2_add_51
    · have hf := (if_neg hc).symm.trans hf
      cases hf
      exact retV C hw dX2_add_14
set_option maxHeartbeats 4000000 in
set_option maxRecDepth 100000 in
theorem k_X2_add {l : Launch} {sx : List sx_T} {D : va_G} {cI cZ cO : ClassId} (a_laws : Nat) (a_laws_codes : Nat) (a_laws_lengths : Nat) (a_laws_letters : Nat) (a_laws_stack : Nat) (a_ar : Nat) (rw : Nat → Nat) (ar_n : Nat) (laws_holds : Int32) (ar : Nat → Int32) (o_laws_size : Int32) (o_laws_lengths : Nat → Int32) (o_laws_c0 : Nat → Int32) (o_laws_c1 : Nat → Int32) (o_laws_c2 : Nat → Int32) (o_laws_c3 : Nat → Int32) (laws_size : Int32) (laws_lengths : Nat → Int32) (laws_c0 : Nat → Int32) (laws_c1 : Nat → Int32) (laws_c2 : Nat → Int32) (laws_c3 : Nat → Int32) (p2 : Int32) (hF : f_X2_add ar ar_n laws_size laws_lengths laws_c0 laws_c1 laws_c2 laws_c3 p2 = some (o_laws_size, o_laws_lengths, o_laws_c0, o_laws_c1, o_laws_c2, o_laws_c3)) : CtV l yX2_add wsX2_add rm_X2_add sx D (tyL cI cZ cO) [.ref a_laws, .ref a_ar, .int p2] [(oX2 a_laws (.int laws_size) (.int laws_holds) (.ref a_laws_codes) (.ref a_laws_lengths) (.ref a_laws_letters) (.ref a_laws_stack)), (a_laws_codes, .inl (cO, 4, .inr (.inr (.inr (.inr (rwF rw)))))), (a_laws_lengths, .inl (cI, 4, .inl laws_lengths)), ((rw 0), .inl (cI, 241, .inl laws_c0)), ((rw 1), .inl (cI, 241, .inl laws_c1)), ((rw 2), .inl (cI, 241, .inl laws_c2)), ((rw 3), .inl (cI, 241, .inl laws_c3)), (a_ar, .inl (cI, ar_n, .inl ar))] [(oX2 a_laws (.int o_laws_size) (.int laws_holds) (.ref a_laws_codes) (.ref a_laws_lengths) (.ref a_laws_letters) (.ref a_laws_stack)), (a_laws_codes, .inl (cO, 4, .inr (.inr (.inr (.inr (rwF rw)))))), (a_laws_lengths, .inl (cI, 4, .inl o_laws_lengths)), ((rw 0), .inl (cI, 241, .inl o_laws_c0)), ((rw 1), .inl (cI, 241, .inl o_laws_c1)), ((rw 2), .inl (cI, 241, .inl o_laws_c2)), ((rw 3), .inl (cI, 241, .inl o_laws_c3)), (a_ar, .inl (cI, ar_n, .inl ar))] := by
  refine ctV_of (cc := cX2_add) (ret := none) (maxL := 3) (by decide) rfl (Nat.le_of_ble_eq_true rfl) ?_
  intro p e s m below meth c A ls C K hw hl
  exact q_X2_add_0 C K a_laws a_laws_codes a_laws_lengths a_laws_letters a_laws_stack a_ar rw ar_n laws_holds ar o_laws_size o_laws_lengths o_laws_c0 o_laws_c1 o_laws_c2 o_laws_c3 laws_size laws_lengths laws_c0 laws_c1 laws_c2 laws_c3 p2 hF hw (lv_sub hl [0, 1, 2] rfl)
abbrev rm_X2_endOfClause : Room := { frames := 0, cells := 0, slots := 0, locals := 0 }
set_option maxHeartbeats 4000000 in
set_option maxRecDepth 100000 in
theorem q_X2_endOfClause_2 {p : Program} {l : Launch} {e : Env} {s : State} {m : MethodId} {args : Array Value} {below : List Frame} {meth : Method} {c : Code} {sx : List sx_T} {D : va_G} {cI cZ cO : ClassId} {A : Nat → Prop} (C : Cx p s m args meth c RX2 wsX2_endOfClause cX2_endOfClause 4 (some .int)) (K : Kx sx D (tyL cI cZ cO) A s) (a_ar : Nat) (ar_n : Nat) (ar : Nat → Int32) (r0 : Int32)   (k2 : Int32 → Int32 → Option (Int32)) (hk2 : ∀ (v1 : Int32) (v3 : Int32) (H : Heap) (locs : List Loc) (ls : Array Slot), k2 v1 v3 = some r0 → Wo D A s [(a_ar, .inl (cI, ar_n, .inl ar))] H locs → lv_has ls 4 [(0, .ref a_ar), (1, .int v1), (3, .int v3)] → W p l e rm_X2_endOfClause s m args below meth c H locs 0 0 (MQ below (QcI D A r0 [(a_ar, .inl (cI, ar_n, .inl ar))]) args s 0 0 A) (F0 m 2 ls [])) (v1 : Int32) (v3 : Int32) {H : Heap} {locs : List Loc} {ls : Array Slot} (hf : b_X2_endOfClause_2 ar ar_n k2 v1 v3 = some r0) (hw : Wo D A s [(a_ar, .inl (cI, ar_n, .inl ar))] H locs) (hl : lv_has ls 4 [(0, .ref a_ar), (1, .int v1), (3, .int v3)]) : W p l e rm_X2_endOfClause s m args below meth c H locs 0 0 (MQ below (QcI D A r0 [(a_ar, .inl (cI, ar_n, .inl ar))]) args s 0 0 A) (F0 m 2 ls []) := by
  obtain ⟨hx, hb, hml, hown, hts, hr, hlk⟩ := id C
  obtain ⟨hK, hX, hA⟩ := id K
  unfold b_X2_endOfClause_2 at hf
  refine lv_iload_n hx hb dX2_endOfClause_2 rfl (lv_at hl 2 rfl) ?_
  refine lv_iload_n hx hb dX2_endOfClause_3 rfl (lv_at hl 1 rfl) ?_
  refine lv_icmp_ge (tgt := 23) hx hb dX2_endOfClause_4 (by decide) (fun hc => ?_) (fun hc => ?_)
  · have hf := (if_pos hc).symm.trans hf
    refine lv_iload_n hx hb dX2_endOfClause_23 rfl (lv_at hl 1 rfl) ?_
    clear hk2; cases hf
    exact retI C hw dX2_endOfClause_24 rfl
  · have hf := (if_neg hc).symm.trans hf
    refine lv_aload_n hx hb dX2_endOfClause_7 rfl (lv_at hl 0 rfl) ?_
    refine lv_iload_n hx hb dX2_endOfClause_8 rfl (lv_at hl 2 rfl) ?_
    obtain ⟨hc_1, hf⟩ := gd_some hf
    refine va_iald hx hb hK hw.1 0 0 rfl rfl (inB_in hc_1) dX2_endOfClause_9 ?_
    refine lv_bipush (v := (-13 : Int32)) hx hb dX2_endOfClause_10 (by decide) ?_
    refine lv_icmp_ne (tgt := 17) hx hb dX2_endOfClause_12 (by decide) (fun hc => ?_) (fun hc => ?_)
    · have hf := (if_neg hc).symm.trans hf
      obtain ⟨v3_2, e_v3_2, hf⟩ := bnd_some hf
      refine lv_iinc (v := v3_2) (lv' := [(3, .int v3_2), (0, .ref a_ar), (1, .int v1)]) hx hb dX2_endOfClause_17 hl (k := 2) rfl (by rw [e_v3_2]; rfl) (by decide) rfl (fun ls hl => ?_)
      refine lv_goto (tgt := 2) hx hb dX2_endOfClause_20 (by decide) ?_
      exact hk2 v1 v3_2 _ _ _ hf hw (lv_sub hl [1, 2, 0] rfl)
    · have hf := (if_pos hc).symm.trans hf
      refine lv_iload_n hx hb dX2_endOfClause_15 rfl (lv_at hl 2 rfl) ?_
      clear hk2; cases hf
      exact retI C hw dX2_endOfClause_16 rfl
theorem qf_X2_endOfClause_2 {p : Program} {l : Launch} {e : Env} {s : State} {m : MethodId} {args : Array Value} {below : List Frame} {meth : Method} {c : Code} {sx : List sx_T} {D : va_G} {cI cZ cO : ClassId} {A : Nat → Prop} (C : Cx p s m args meth c RX2 wsX2_endOfClause cX2_endOfClause 4 (some .int)) (K : Kx sx D (tyL cI cZ cO) A s) (a_ar : Nat) (ar_n : Nat) (ar : Nat → Int32) (r0 : Int32)    (n : Nat) : ∀ (v1 : Int32) (v3 : Int32) (H : Heap) (locs : List Loc) (ls : Array Slot), f_X2_endOfClause_2 ar ar_n  n v1 v3 = some r0 → Wo D A s [(a_ar, .inl (cI, ar_n, .inl ar))] H locs → lv_has ls 4 [(0, .ref a_ar), (1, .int v1), (3, .int v3)] → W p l e rm_X2_endOfClause s m args below meth c H locs 0 0 (MQ below (QcI D A r0 [(a_ar, .inl (cI, ar_n, .inl ar))]) args s 0 0 A) (F0 m 2 ls []) := by
  induction n with
  | zero =>
    intro v1 v3 H locs ls hf
    have h9 : (none : Option (Int32)) = some r0 := hf
    cases h9
  | succ n ih =>
    intro v1 v3 H locs ls hf hw hl
    exact q_X2_endOfClause_2 C K a_ar ar_n ar r0  (f_X2_endOfClause_2 ar ar_n  n) ih v1 v3 hf hw hl
set_option maxHeartbeats 4000000 in
set_option maxRecDepth 100000 in
theorem q_X2_endOfClause_0 {p : Program} {l : Launch} {e : Env} {s : State} {m : MethodId} {args : Array Value} {below : List Frame} {meth : Method} {c : Code} {sx : List sx_T} {D : va_G} {cI cZ cO : ClassId} {A : Nat → Prop} (C : Cx p s m args meth c RX2 wsX2_endOfClause cX2_endOfClause 4 (some .int)) (K : Kx sx D (tyL cI cZ cO) A s) (a_ar : Nat) (ar_n : Nat) (ar : Nat → Int32) (r0 : Int32)    (v1 : Int32) (v2 : Int32) {H : Heap} {locs : List Loc} {ls : Array Slot} (hf : b_X2_endOfClause_0 ar ar_n  v1 v2 = some r0) (hw : Wo D A s [(a_ar, .inl (cI, ar_n, .inl ar))] H locs) (hl : lv_has ls 4 [(0, .ref a_ar), (1, .int v1), (2, .int v2)]) : W p l e rm_X2_endOfClause s m args below meth c H locs 0 0 (MQ below (QcI D A r0 [(a_ar, .inl (cI, ar_n, .inl ar))]) args s 0 0 A) (F0 m 0 ls []) := by
  obtain ⟨hx, hb, hml, hown, hts, hr, hlk⟩ := id C
  obtain ⟨hK, hX, hA⟩ := id K
  unfold b_X2_endOfClause_0 at hf
  refine lv_iload_n hx hb dX2_endOfClause_0 rfl (lv_at hl 2 rfl) ?_
  refine lv_istore_n (lv' := [(3, .int v2), (0, .ref a_ar), (1, .int v1), (2, .int v2)]) hx hb dX2_endOfClause_1 rfl hl (by decide) rfl (fun ls hl => ?_)
  exact qf_X2_endOfClause_2 C K a_ar ar_n ar r0  fu v1 v2 _ _ _ hf hw (lv_sub hl [1, 2, 0] rfl)
set_option maxHeartbeats 4000000 in
set_option maxRecDepth 100000 in
theorem k_X2_endOfClause {l : Launch} {sx : List sx_T} {D : va_G} {cI cZ cO : ClassId} (a_ar : Nat) (ar_n : Nat) (ar : Nat → Int32) (r0 : Int32) (p2 : Int32) (p3 : Int32) (hF : f_X2_endOfClause ar ar_n p2 p3 = some r0) : CtI l yX2_endOfClause wsX2_endOfClause rm_X2_endOfClause sx D (tyL cI cZ cO) [.ref a_ar, .int p2, .int p3] [(a_ar, .inl (cI, ar_n, .inl ar))] r0 [(a_ar, .inl (cI, ar_n, .inl ar))] := by
  refine ctI_of (cc := cX2_endOfClause) (ret := (some .int)) (maxL := 4) (by decide) rfl (Nat.le_of_ble_eq_true rfl) ?_
  intro p e s m below meth c A ls C K hw hl
  exact q_X2_endOfClause_0 C K a_ar ar_n ar r0 p2 p3 hF hw (lv_sub hl [0, 1, 2] rfl)
abbrev rm_X2_combine : Room := { frames := 0, cells := 0, slots := 0, locals := 0 }
theorem lk_X2_combine_0 : Cond.constantLong RX2 68 (1000000 : Int64) ∈ wsX2_combine := List.mem_cons_of_mem _ (bi_wsL_law0_r30 _ (List.mem_of_getElem? (i := 23) rfl))
theorem lk_X2_combine_1 : Cond.constantLong RX2 71 (-1000000 : Int64) ∈ wsX2_combine := List.mem_cons_of_mem _ (bi_wsL_law0_r31 _ (List.mem_of_getElem? (i := 1) rfl))
theorem lk_X2_combine_2 : Cond.constant RX2 73 (-1000000 : Int32) ∈ wsX2_combine := List.mem_cons_of_mem _ (bi_wsL_law0_r31 _ (List.mem_of_getElem? (i := 2) rfl))
theorem lk_X2_combine_3 : Cond.constant RX2 70 (1000000 : Int32) ∈ wsX2_combine := List.mem_cons_of_mem _ (bi_wsL_law0_r31 _ (List.mem_of_getElem? (i := 0) rfl))
set_option maxHeartbeats 4000000 in
set_option maxRecDepth 100000 in
theorem q_X2_combine_162 {p : Program} {l : Launch} {e : Env} {s : State} {m : MethodId} {args : Array Value} {below : List Frame} {meth : Method} {c : Code} {sx : List sx_T} {D : va_G} {cI cZ cO : ClassId} {A : Nat → Prop} (C : Cx p s m args meth c RX2 wsX2_combine cX2_combine 7 (some .int)) (K : Kx sx D (tyL cI cZ cO) A s) (r0 : Int32)    (v5 : Int64) {H : Heap} {locs : List Loc} {ls : Array Slot} (hf : b_X2_combine_162   v5 = some r0) (hw : Wo D A s [] H locs) (hl : lv_has ls 7 [(5, .long v5)]) : W p l e rm_X2_combine s m args below meth c H locs 0 0 (MQ below (QcI D A r0 []) args s 0 0 A) (F0 m 162 ls []) := by
  obtain ⟨hx, hb, hml, hown, hts, hr, hlk⟩ := id C
  obtain ⟨hK, hX, hA⟩ := id K
  unfold b_X2_combine_162 at hf
  refine lv_lload hx hb dX2_combine_162 (lv_at hl 0 rfl) ?_
  refine lv_ldc2 (v := (1000000 : Int64)) hx hb hown (hts _ lk_X2_combine_0) dX2_combine_164 ?_
  refine W.lcmp hx hb dX2_combine_167 ?_
  refine lv_if_le (tgt := 174) hx hb dX2_combine_168 (by decide) (fun hc => ?_) (fun hc => ?_)
  · have hf := (if_pos hc).symm.trans hf
    refine lv_lload hx hb dX2_combine_174 (lv_at hl 0 rfl) ?_
    refine lv_ldc2 (v := (-1000000 : Int64)) hx hb hown (hts _ lk_X2_combine_1) dX2_combine_176 ?_
    refine W.lcmp hx hb dX2_combine_179 ?_
    refine lv_if_ge (tgt := 188) hx hb dX2_combine_180 (by decide) (fun hc => ?_) (fun hc => ?_)
    · have hf := (if_pos hc).symm.trans hf
      refine lv_lload hx hb dX2_combine_188 (lv_at hl 0 rfl) ?_
      refine lv_l2i (v := v5.toInt32) hx hb dX2_combine_190 rfl ?_
      cases hf
      exact retI C hw dX2_combine_191 rfl
    · have hf := (if_neg hc).symm.trans hf
      refine lv_ldc (v := (-1000000 : Int32)) hx hb hown (hts _ lk_X2_combine_2) dX2_combine_183 ?_
      refine lv_goto (tgt := 191) hx hb dX2_combine_185 (by decide) ?_
      cases hf
      exact retI C hw dX2_combine_191 rfl
  · have hf := (if_neg hc).symm.trans hf
    refine lv_ldc (v := (1000000 : Int32)) hx hb hown (hts _ lk_X2_combine_3) dX2_combine_171 ?_
    cases hf
    exact retI C hw dX2_combine_173 rfl
set_option maxHeartbeats 4000000 in
set_option maxRecDepth 100000 in
theorem q_X2_combine_85 {p : Program} {l : Launch} {e : Env} {s : State} {m : MethodId} {args : Array Value} {below : List Frame} {meth : Method} {c : Code} {sx : List sx_T} {D : va_G} {cI cZ cO : ClassId} {A : Nat → Prop} (C : Cx p s m args meth c RX2 wsX2_combine cX2_combine 7 (some .int)) (K : Kx sx D (tyL cI cZ cO) A s) (r0 : Int32)    (t0 : Int64) {H : Heap} {locs : List Loc} {ls : Array Slot} (hf : b_X2_combine_85   t0 = some r0) (hw : Wo D A s [] H locs) (hl : lv_has ls 7 []) : W p l e rm_X2_combine s m args below meth c H locs 0 0 (MQ below (QcI D A r0 []) args s 0 0 A) (F0 m 85 ls [.long t0]) := by
  obtain ⟨hx, hb, hml, hown, hts, hr, hlk⟩ := id C
  obtain ⟨hK, hX, hA⟩ := id K
  unfold b_X2_combine_85 at hf
  refine lv_lstore (lv' := [(5, .long t0)]) hx hb dX2_combine_85 hl (by decide) rfl (fun ls hl => ?_)
  refine lv_goto (tgt := 162) hx hb dX2_combine_87 (by decide) ?_
  exact q_X2_combine_162 C K r0  t0 hf hw (lv_sub hl [0] rfl)
set_option maxHeartbeats 4000000 in
set_option maxRecDepth 100000 in
theorem q_X2_combine_156 {p : Program} {l : Launch} {e : Env} {s : State} {m : MethodId} {args : Array Value} {below : List Frame} {meth : Method} {c : Code} {sx : List sx_T} {D : va_G} {cI cZ cO : ClassId} {A : Nat → Prop} (C : Cx p s m args meth c RX2 wsX2_combine cX2_combine 7 (some .int)) (K : Kx sx D (tyL cI cZ cO) A s) (r0 : Int32)     {H : Heap} {locs : List Loc} {ls : Array Slot} (hf : b_X2_combine_156    = some r0) (hw : Wo D A s [] H locs) (hl : lv_has ls 7 []) : W p l e rm_X2_combine s m args below meth c H locs 0 0 (MQ below (QcI D A r0 []) args s 0 0 A) (F0 m 156 ls []) := by
  obtain ⟨hx, hb, hml, hown, hts, hr, hlk⟩ := id C
  obtain ⟨hK, hX, hA⟩ := id K
  unfold b_X2_combine_156 at hf
  refine lv_iconst (v := (1 : Int32)) hx hb dX2_combine_156 (by decide) ?_
  refine lv_goto (tgt := 161) hx hb dX2_combine_157 (by decide) ?_
  cases hf
  exact retI C hw dX2_combine_161 rfl
set_option maxHeartbeats 4000000 in
set_option maxRecDepth 100000 in
theorem q_X2_combine_0 {p : Program} {l : Launch} {e : Env} {s : State} {m : MethodId} {args : Array Value} {below : List Frame} {meth : Method} {c : Code} {sx : List sx_T} {D : va_G} {cI cZ cO : ClassId} {A : Nat → Prop} (C : Cx p s m args meth c RX2 wsX2_combine cX2_combine 7 (some .int)) (K : Kx sx D (tyL cI cZ cO) A s) (r0 : Int32)    (v0 : Int32) (v1 : Int64) (v3 : Int64) {H : Heap} {locs : List Loc} {ls : Array Slot} (hf : b_X2_combine_0   v0 v1 v3 = some r0) (hw : Wo D A s [] H locs) (hl : lv_has ls 7 [(0, .int v0), (1, .long v1), (3, .long v3)]) : W p l e rm_X2_combine s m args below meth c H locs 0 0 (MQ below (QcI D A r0 []) args s 0 0 A) (F0 m 0 ls []) := by
  obtain ⟨hx, hb, hml, hown, hts, hr, hlk⟩ := id C
  obtain ⟨hK, hX, hA⟩ := id K
  unfold b_X2_combine_0 at hf
  refine lv_iload_n hx hb dX2_combine_0 rfl (lv_at hl 0 rfl) ?_
  by_cases hm9 : v0 = (-9 : Int32)
  · have hf := (if_pos hm9).symm.trans hf
    refine lv_tableIn (tgt := 126) hx hb dX2_combine_1 (by rw [hm9]; decide) (by rw [hm9]; decide) (by rw [hm9]; rfl) (by decide) ?_
    refine lv_lload_n hx hb dX2_combine_126 rfl (lv_at hl 1 rfl) ?_
    refine lv_lconst (v := (0 : Int64)) hx hb dX2_combine_127 (by decide) ?_
    refine W.lcmp hx hb dX2_combine_128 ?_
    refine lv_if_eq (tgt := 142) hx hb dX2_combine_129 (by decide) (fun hc => ?_) (fun hc => ?_)
    · have hf := (if_pos hc).symm.trans hf
      refine lv_iconst (v := (0 : Int32)) hx hb dX2_combine_142 (by decide) ?_
      cases hf
      exact retI C hw dX2_combine_143 rfl
    · have hf := (if_neg hc).symm.trans hf
      refine lv_lload_n hx hb dX2_combine_132 rfl (lv_at hl 2 rfl) ?_
      refine lv_lconst (v := (0 : Int64)) hx hb dX2_combine_133 (by decide) ?_
      refine W.lcmp hx hb dX2_combine_134 ?_
      refine lv_if_eq (tgt := 142) hx hb dX2_combine_135 (by decide) (fun hc => ?_) (fun hc => ?_)
      · have hf := (if_pos hc).symm.trans hf
        refine lv_iconst (v := (0 : Int32)) hx hb dX2_combine_142 (by decide) ?_
        cases hf
        exact retI C hw dX2_combine_143 rfl
      · have hf := (if_neg hc).symm.trans hf
        refine lv_iconst (v := (1 : Int32)) hx hb dX2_combine_138 (by decide) ?_
        refine lv_goto (tgt := 143) hx hb dX2_combine_139 (by decide) ?_
        cases hf
        exact retI C hw dX2_combine_143 rfl
  have hf := (if_neg hm9).symm.trans hf
  by_cases hm8 : v0 = (-8 : Int32)
  · have hf := (if_pos hm8).symm.trans hf
    refine lv_tableIn (tgt := 114) hx hb dX2_combine_1 (by rw [hm8]; decide) (by rw [hm8]; decide) (by rw [hm8]; rfl) (by decide) ?_
    refine lv_lload_n hx hb dX2_combine_114 rfl (lv_at hl 1 rfl) ?_
    refine lv_lload_n hx hb dX2_combine_115 rfl (lv_at hl 2 rfl) ?_
    refine W.lcmp hx hb dX2_combine_116 ?_
    refine lv_if_le (tgt := 124) hx hb dX2_combine_117 (by decide) (fun hc => ?_) (fun hc => ?_)
    · have hf := (if_pos hc).symm.trans hf
      refine lv_iconst (v := (0 : Int32)) hx hb dX2_combine_124 (by decide) ?_
      cases hf
      exact retI C hw dX2_combine_125 rfl
    · have hf := (if_neg hc).symm.trans hf
      refine lv_iconst (v := (1 : Int32)) hx hb dX2_combine_120 (by decide) ?_
      refine lv_goto (tgt := 125) hx hb dX2_combine_121 (by decide) ?_
      cases hf
      exact retI C hw dX2_combine_125 rfl
  have hf := (if_neg hm8).symm.trans hf
  by_cases hm7 : v0 = (-7 : Int32)
  · have hf := (if_pos hm7).symm.trans hf
    refine lv_tableIn (tgt := 102) hx hb dX2_combine_1 (by rw [hm7]; decide) (by rw [hm7]; decide) (by rw [hm7]; rfl) (by decide) ?_
    refine lv_lload_n hx hb dX2_combine_102 rfl (lv_at hl 1 rfl) ?_
    refine lv_lload_n hx hb dX2_combine_103 rfl (lv_at hl 2 rfl) ?_
    refine W.lcmp hx hb dX2_combine_104 ?_
    refine lv_if_ge (tgt := 112) hx hb dX2_combine_105 (by decide) (fun hc => ?_) (fun hc => ?_)
    · have hf := (if_pos hc).symm.trans hf
      refine lv_iconst (v := (0 : Int32)) hx hb dX2_combine_112 (by decide) ?_
      cases hf
      exact retI C hw dX2_combine_113 rfl
    · have hf := (if_neg hc).symm.trans hf
      refine lv_iconst (v := (1 : Int32)) hx hb dX2_combine_108 (by decide) ?_
      refine lv_goto (tgt := 113) hx hb dX2_combine_109 (by decide) ?_
      cases hf
      exact retI C hw dX2_combine_113 rfl
  have hf := (if_neg hm7).symm.trans hf
  by_cases hm6 : v0 = (-6 : Int32)
  · have hf := (if_pos hm6).symm.trans hf
    refine lv_tableIn (tgt := 90) hx hb dX2_combine_1 (by rw [hm6]; decide) (by rw [hm6]; decide) (by rw [hm6]; rfl) (by decide) ?_
    refine lv_lload_n hx hb dX2_combine_90 rfl (lv_at hl 1 rfl) ?_
    refine lv_lload_n hx hb dX2_combine_91 rfl (lv_at hl 2 rfl) ?_
    refine W.lcmp hx hb dX2_combine_92 ?_
    refine lv_if_ne (tgt := 100) hx hb dX2_combine_93 (by decide) (fun hc => ?_) (fun hc => ?_)
    · have hf := (if_neg hc).symm.trans hf
      refine lv_iconst (v := (0 : Int32)) hx hb dX2_combine_100 (by decide) ?_
      cases hf
      exact retI C hw dX2_combine_101 rfl
    · have hf := (if_pos hc).symm.trans hf
      refine lv_iconst (v := (1 : Int32)) hx hb dX2_combine_96 (by decide) ?_
      refine lv_goto (tgt := 101) hx hb dX2_combine_97 (by decide) ?_
      cases hf
      exact retI C hw dX2_combine_101 rfl
  have hf := (if_neg hm6).symm.trans hf
  by_cases hm5 : v0 = (-5 : Int32)
  · have hf := (if_pos hm5).symm.trans hf
    refine lv_tableIn (tgt := 72) hx hb dX2_combine_1 (by rw [hm5]; decide) (by rw [hm5]; decide) (by rw [hm5]; rfl) (by decide) ?_
    refine lv_lload_n hx hb dX2_combine_72 rfl (lv_at hl 2 rfl) ?_
    refine lv_lconst (v := (0 : Int64)) hx hb dX2_combine_73 (by decide) ?_
    refine W.lcmp hx hb dX2_combine_74 ?_
    refine lv_if_ne (tgt := 82) hx hb dX2_combine_75 (by decide) (fun hc => ?_) (fun hc => ?_)
    · have hf := (if_neg hc).symm.trans hf
      refine lv_lload_n hx hb dX2_combine_82 rfl (lv_at hl 1 rfl) ?_
      refine lv_lload_n hx hb dX2_combine_83 rfl (lv_at hl 2 rfl) ?_
      obtain ⟨hc_1, hf⟩ := gd_some hf
      refine lv_ldiv hx hb dX2_combine_84 (nzL_nz hc_1) ?_
      exact q_X2_combine_85 C K r0  (v1 / v3) hf hw (lv_sub hl [] rfl)
    · have hf := (if_pos hc).symm.trans hf
      refine lv_lconst (v := (0 : Int64)) hx hb dX2_combine_78 (by decide) ?_
      refine lv_goto (tgt := 85) hx hb dX2_combine_79 (by decide) ?_
      exact q_X2_combine_85 C K r0  (0 : Int64) hf hw (lv_sub hl [] rfl)
  have hf := (if_neg hm5).symm.trans hf
  by_cases hm4 : v0 = (-4 : Int32)
  · have hf := (if_pos hm4).symm.trans hf
    refine lv_tableIn (tgt := 64) hx hb dX2_combine_1 (by rw [hm4]; decide) (by rw [hm4]; decide) (by rw [hm4]; rfl) (by decide) ?_
    refine lv_lload_n hx hb dX2_combine_64 rfl (lv_at hl 1 rfl) ?_
    refine lv_lload_n hx hb dX2_combine_65 rfl (lv_at hl 2 rfl) ?_
    refine lv_lmul hx hb dX2_combine_66 ?_
    obtain ⟨v5_2, e_v5_2, hf⟩ := bnd_some hf
    refine lv_nml e_v5_2 ?_
    refine lv_lstore (lv' := [(5, .long v5_2), (0, .int v0), (1, .long v1), (3, .long v3)]) hx hb dX2_combine_67 hl (by decide) rfl (fun ls hl => ?_)
    refine lv_goto (tgt := 162) hx hb dX2_combine_69 (by decide) ?_
    exact q_X2_combine_162 C K r0  v5_2 hf hw (lv_sub hl [0] rfl)
  have hf := (if_neg hm4).symm.trans hf
  by_cases hm3 : v0 = (-3 : Int32)
  · have hf := (if_pos hm3).symm.trans hf
    refine lv_tableIn (tgt := 56) hx hb dX2_combine_1 (by rw [hm3]; decide) (by rw [hm3]; decide) (by rw [hm3]; rfl) (by decide) ?_
    refine lv_lload_n hx hb dX2_combine_56 rfl (lv_at hl 1 rfl) ?_
    refine lv_lload_n hx hb dX2_combine_57 rfl (lv_at hl 2 rfl) ?_
    refine lv_lsub hx hb dX2_combine_58 ?_
    obtain ⟨v5_3, e_v5_3, hf⟩ := bnd_some hf
    refine lv_nml e_v5_3 ?_
    refine lv_lstore (lv' := [(5, .long v5_3), (0, .int v0), (1, .long v1), (3, .long v3)]) hx hb dX2_combine_59 hl (by decide) rfl (fun ls hl => ?_)
    refine lv_goto (tgt := 162) hx hb dX2_combine_61 (by decide) ?_
    exact q_X2_combine_162 C K r0  v5_3 hf hw (lv_sub hl [0] rfl)
  have hf := (if_neg hm3).symm.trans hf
  by_cases hm2 : v0 = (-2 : Int32)
  · have hf := (if_pos hm2).symm.trans hf
    refine lv_tableIn (tgt := 48) hx hb dX2_combine_1 (by rw [hm2]; decide) (by rw [hm2]; decide) (by rw [hm2]; rfl) (by decide) ?_
    refine lv_lload_n hx hb dX2_combine_48 rfl (lv_at hl 1 rfl) ?_
    refine lv_lload_n hx hb dX2_combine_49 rfl (lv_at hl 2 rfl) ?_
    refine lv_ladd hx hb dX2_combine_50 ?_
    obtain ⟨v5_4, e_v5_4, hf⟩ := bnd_some hf
    refine lv_nml e_v5_4 ?_
    refine lv_lstore (lv' := [(5, .long v5_4), (0, .int v0), (1, .long v1), (3, .long v3)]) hx hb dX2_combine_51 hl (by decide) rfl (fun ls hl => ?_)
    refine lv_goto (tgt := 162) hx hb dX2_combine_53 (by decide) ?_
    exact q_X2_combine_162 C K r0  v5_4 hf hw (lv_sub hl [0] rfl)
  have hf := (if_neg hm2).symm.trans hf
  refine lv_tableOut (tgt := 144) hx hb dX2_combine_1 (by have zhm9 := lv_neT (a := -9) hm9 (by decide); have zhm8 := lv_neT (a := -8) hm8 (by decide); have zhm7 := lv_neT (a := -7) hm7 (by decide); have zhm6 := lv_neT (a := -6) hm6 (by decide); have zhm5 := lv_neT (a := -5) hm5 (by decide); have zhm4 := lv_neT (a := -4) hm4 (by decide); have zhm3 := lv_neT (a := -3) hm3 (by decide); have zhm2 := lv_neT (a := -2) hm2 (by decide); omega) (by decide) ?_
  refine lv_lload_n hx hb dX2_combine_144 rfl (lv_at hl 1 rfl) ?_
  refine lv_lconst (v := (0 : Int64)) hx hb dX2_combine_145 (by decide) ?_
  refine W.lcmp hx hb dX2_combine_146 ?_
  refine lv_if_ne (tgt := 156) hx hb dX2_combine_147 (by decide) (fun hc => ?_) (fun hc => ?_)
  · have hf := (if_neg hc).symm.trans hf
    exact q_X2_combine_156 C K r0   hf hw (lv_sub hl [] rfl)
  · have hf := (if_pos hc).symm.trans hf
    refine lv_lload_n hx hb dX2_combine_150 rfl (lv_at hl 2 rfl) ?_
    refine lv_lconst (v := (0 : Int64)) hx hb dX2_combine_151 (by decide) ?_
    refine W.lcmp hx hb dX2_combine_152 ?_
    refine lv_if_eq (tgt := 160) hx hb dX2_combine_153 (by decide) (fun hc => ?_) (fun hc => ?_)
    · have hf := (if_pos hc).symm.trans hf
      refine lv_iconst (v := (0 : Int32)) hx hb dX2_combine_160 (by decide) ?_
      cases hf
      exact retI C hw dX2_combine_161 rfl
    · have hf := (if_neg hc).symm.trans hf
      exact q_X2_combine_156 C K r0   hf hw (lv_sub hl [] rfl)
set_option maxHeartbeats 4000000 in
set_option maxRecDepth 100000 in
theorem k_X2_combine {l : Launch} {sx : List sx_T} {D : va_G} {cI cZ cO : ClassId} (r0 : Int32) (p1 : Int32) (p2 : Int64) (p3 : Int64) (hF : f_X2_combine p1 p2 p3 = some r0) : CtI l yX2_combine wsX2_combine rm_X2_combine sx D (tyL cI cZ cO) [.int p1, .long p2, .long p3] [] r0 [] := by
  refine ctI_of (cc := cX2_combine) (ret := (some .int)) (maxL := 7) (by decide) rfl (Nat.le_of_ble_eq_true rfl) ?_
  intro p e s m below meth c A ls C K hw hl
  exact q_X2_combine_0 C K r0 p1 p2 p3 hF hw (lv_sub hl [0, 1, 2] rfl)
abbrev rm_X2_worth : Room := { frames := 1, cells := 0, slots := 0, locals := 26 }
theorem in_X2_worth_X2 : ∀ w ∈ u_ws RX2 TX2 6, w ∈ wsX2_worth := fun w h => List.mem_cons_of_mem _ (bi_wsX20 w h)
theorem lk_X2_worth_0 : Cond.fieldLink RX2 31 "GloveHouses$Laws" "stack" "[I" ∈ wsX2_worth := List.mem_cons_of_mem _ (bi_wsL_law0_r5 _ (List.mem_of_getElem? (i := 6) rfl))
theorem lk_X2_worth_1 : Cond.initialized RX2 ∈ wsX2_worth := List.mem_cons_of_mem _ (bi_wsL_law0_r2 _ (List.mem_of_getElem? (i := 8) rfl))
theorem lk_X2_worth_2 : Cond.methodLink RX2 60 yX2_endOfClause ∈ wsX2_worth := List.mem_cons_of_mem _ (bi_wsL_law0_r30 _ (List.mem_of_getElem? (i := 17) rfl))
theorem lk_X2_worth_3 : Cond.static yX2_endOfClause ∈ wsX2_worth := List.mem_cons_of_mem _ (bi_wsL_law0_r30 _ (List.mem_of_getElem? (i := 18) rfl))
theorem lk_X2_worth_4 : Cond.fieldLink RX2 28 "GloveHouses$Laws" "letters" "[I" ∈ wsX2_worth := List.mem_cons_of_mem _ (bi_wsL_law0_r5 _ (List.mem_of_getElem? (i := 5) rfl))
theorem lk_X2_worth_5 : Cond.methodLink RX2 64 yX2_combine ∈ wsX2_worth := List.mem_cons_of_mem _ (bi_wsL_law0_r30 _ (List.mem_of_getElem? (i := 20) rfl))
theorem lk_X2_worth_6 : Cond.static yX2_combine ∈ wsX2_worth := List.mem_cons_of_mem _ (bi_wsL_law0_r30 _ (List.mem_of_getElem? (i := 21) rfl))
set_option maxHeartbeats 4000000 in
set_option maxRecDepth 100000 in
theorem q_X2_worth_173 {p : Program} {l : Launch} {e : Env} {s : State} {m : MethodId} {args : Array Value} {below : List Frame} {meth : Method} {c : Code} {sx : List sx_T} {D : va_G} {cI cZ cO : ClassId} {A : Nat → Prop} (C : Cx p s m args meth c RX2 wsX2_worth cX2_worth 6 (some .int)) (K : Kx sx D (tyL cI cZ cO) A s) (a_laws : Nat) (a_laws_codes : Nat) (a_laws_lengths : Nat) (a_laws_letters : Nat) (a_laws_stack : Nat) (a_ar : Nat) (ar_n : Nat) (laws_size : Int32) (laws_holds : Int32) (laws_letters : Nat → Int32) (ar : Nat → Int32) (r0 : Int32) (o_laws_stack : Nat → Int32)   (k5 : (Nat → Int32) → Int32 → Int32 → Int32 → Option (Int32 × (Nat → Int32))) (hk5 : ∀ (laws_stack : Nat → Int32) (v2 : Int32) (v3 : Int32) (v4 : Int32) (H : Heap) (locs : List Loc) (ls : Array Slot), k5 laws_stack v2 v3 v4 = some (r0, o_laws_stack) → Wo D A s [(oX2 a_laws (.int laws_size) (.int laws_holds) (.ref a_laws_codes) (.ref a_laws_lengths) (.ref a_laws_letters) (.ref a_laws_stack)), (a_laws_letters, .inl (cI, 6, .inl laws_letters)), (a_laws_stack, .inl (cI, 241, .inl laws_stack)), (a_ar, .inl (cI, ar_n, .inl ar))] H locs → lv_has ls 6 [(0, .ref a_laws), (1, .ref a_ar), (2, .int v2), (3, .int v3), (4, .int v4)] → W p l e rm_X2_worth s m args below meth c H locs 0 0 (MQ below (QcI D A r0 [(oX2 a_laws (.int laws_size) (.int laws_holds) (.ref a_laws_codes) (.ref a_laws_lengths) (.ref a_laws_letters) (.ref a_laws_stack)), (a_laws_letters, .inl (cI, 6, .inl laws_letters)), (a_laws_stack, .inl (cI, 241, .inl o_laws_stack)), (a_ar, .inl (cI, ar_n, .inl ar))]) args s 0 0 A) (F0 m 5 ls [])) (laws_stack : Nat → Int32) (v2 : Int32) (v3 : Int32) (v4 : Int32) {H : Heap} {locs : List Loc} {ls : Array Slot} (hf : b_X2_worth_173 laws_letters ar ar_n k5 laws_stack v2 v3 v4 = some (r0, o_laws_stack)) (hw : Wo D A s [(oX2 a_laws (.int laws_size) (.int laws_holds) (.ref a_laws_codes) (.ref a_laws_lengths) (.ref a_laws_letters) (.ref a_laws_stack)), (a_laws_letters, .inl (cI, 6, .inl laws_letters)), (a_laws_stack, .inl (cI, 241, .inl laws_stack)), (a_ar, .inl (cI, ar_n, .inl ar))] H locs) (hl : lv_has ls 6 [(0, .ref a_laws), (1, .ref a_ar), (2, .int v2), (3, .int v3), (4, .int v4)]) : W p l e rm_X2_worth s m args below meth c H locs 0 0 (MQ below (QcI D A r0 [(oX2 a_laws (.int laws_size) (.int laws_holds) (.ref a_laws_codes) (.ref a_laws_lengths) (.ref a_laws_letters) (.ref a_laws_stack)), (a_laws_letters, .inl (cI, 6, .inl laws_letters)), (a_laws_stack, .inl (cI, 241, .inl o_laws_stack)), (a_ar, .inl (cI, ar_n, .inl ar))]) args s 0 0 A) (F0 m 173 ls []) := by
  obtain ⟨hx, hb, hml, hown, hts, hr, hlk⟩ := id C
  obtain ⟨hK, hX, hA⟩ := id K
  unfold b_X2_worth_173 at hf
  obtain ⟨v4_1, e_v4_1, hf⟩ := bnd_some hf
  refine lv_iinc (v := v4_1) (lv' := [(4, .int v4_1), (0, .ref a_laws), (1, .ref a_ar), (2, .int v2), (3, .int v3)]) hx hb dX2_worth_173 hl (k := 4) rfl (by rw [e_v4_1]; rfl) (by decide) rfl (fun ls hl => ?_)
  refine lv_goto (tgt := 5) hx hb dX2_worth_176 (by decide) ?_
  exact hk5 laws_stack v2 v3 v4_1 _ _ _ hf hw (lv_sub hl [1, 2, 3, 4, 0] rfl)
set_option maxHeartbeats 4000000 in
set_option maxRecDepth 100000 in
theorem q_X2_worth_61 {p : Program} {l : Launch} {e : Env} {s : State} {m : MethodId} {args : Array Value} {below : List Frame} {meth : Method} {c : Code} {sx : List sx_T} {D : va_G} {cI cZ cO : ClassId} {A : Nat → Prop} (C : Cx p s m args meth c RX2 wsX2_worth cX2_worth 6 (some .int)) (K : Kx sx D (tyL cI cZ cO) A s) (a_laws : Nat) (a_laws_codes : Nat) (a_laws_lengths : Nat) (a_laws_letters : Nat) (a_laws_stack : Nat) (a_ar : Nat) (ar_n : Nat) (laws_size : Int32) (laws_holds : Int32) (laws_letters : Nat → Int32) (ar : Nat → Int32) (r0 : Int32) (o_laws_stack : Nat → Int32)   (k5 : (Nat → Int32) → Int32 → Int32 → Int32 → Option (Int32 × (Nat → Int32))) (hk5 : ∀ (laws_stack : Nat → Int32) (v2 : Int32) (v3 : Int32) (v4 : Int32) (H : Heap) (locs : List Loc) (ls : Array Slot), k5 laws_stack v2 v3 v4 = some (r0, o_laws_stack) → Wo D A s [(oX2 a_laws (.int laws_size) (.int laws_holds) (.ref a_laws_codes) (.ref a_laws_lengths) (.ref a_laws_letters) (.ref a_laws_stack)), (a_laws_letters, .inl (cI, 6, .inl laws_letters)), (a_laws_stack, .inl (cI, 241, .inl laws_stack)), (a_ar, .inl (cI, ar_n, .inl ar))] H locs → lv_has ls 6 [(0, .ref a_laws), (1, .ref a_ar), (2, .int v2), (3, .int v3), (4, .int v4)] → W p l e rm_X2_worth s m args below meth c H locs 0 0 (MQ below (QcI D A r0 [(oX2 a_laws (.int laws_size) (.int laws_holds) (.ref a_laws_codes) (.ref a_laws_lengths) (.ref a_laws_letters) (.ref a_laws_stack)), (a_laws_letters, .inl (cI, 6, .inl laws_letters)), (a_laws_stack, .inl (cI, 241, .inl o_laws_stack)), (a_ar, .inl (cI, ar_n, .inl ar))]) args s 0 0 A) (F0 m 5 ls [])) (laws_stack : Nat → Int32) (v2 : Int32) (v3 : Int32) (t0 : Int32) {H : Heap} {locs : List Loc} {ls : Array Slot} (hf : b_X2_worth_61 laws_letters ar ar_n k5 laws_stack v2 v3 t0 = some (r0, o_laws_stack)) (hw : Wo D A s [(oX2 a_laws (.int laws_size) (.int laws_holds) (.ref a_laws_codes) (.ref a_laws_lengths) (.ref a_laws_letters) (.ref a_laws_stack)), (a_laws_letters, .inl (cI, 6, .inl laws_letters)), (a_laws_stack, .inl (cI, 241, .inl laws_stack)), (a_ar, .inl (cI, ar_n, .inl ar))] H locs) (hl : lv_has ls 6 [(0, .ref a_laws), (1, .ref a_ar), (2, .int v2), (3, .int v3)]) : W p l e rm_X2_worth s m args below meth c H locs 0 0 (MQ below (QcI D A r0 [(oX2 a_laws (.int laws_size) (.int laws_holds) (.ref a_laws_codes) (.ref a_laws_lengths) (.ref a_laws_letters) (.ref a_laws_stack)), (a_laws_letters, .inl (cI, 6, .inl laws_letters)), (a_laws_stack, .inl (cI, 241, .inl o_laws_stack)), (a_ar, .inl (cI, ar_n, .inl ar))]) args s 0 0 A) (F0 m 61 ls [.int t0]) := by
  obtain ⟨hx, hb, hml, hown, hts, hr, hlk⟩ := id C
  obtain ⟨hK, hX, hA⟩ := id K
  unfold b_X2_worth_61 at hf
  refine lv_istore (lv' := [(4, .int t0), (0, .ref a_laws), (1, .ref a_ar), (2, .int v2), (3, .int v3)]) hx hb dX2_worth_61 hl (by decide) rfl (fun ls hl => ?_)
  refine lv_goto (tgt := 173) hx hb dX2_worth_63 (by decide) ?_
  exact q_X2_worth_173 C K a_laws a_laws_codes a_laws_lengths a_laws_letters a_laws_stack a_ar ar_n laws_size laws_holds laws_letters ar r0 o_laws_stack k5 hk5 laws_stack v2 v3 t0 hf hw (lv_sub hl [1, 2, 3, 4, 0] rfl)
set_option maxHeartbeats 4000000 in
set_option maxRecDepth 100000 in
theorem q_X2_worth_106 {p : Program} {l : Launch} {e : Env} {s : State} {m : MethodId} {args : Array Value} {below : List Frame} {meth : Method} {c : Code} {sx : List sx_T} {D : va_G} {cI cZ cO : ClassId} {A : Nat → Prop} (C : Cx p s m args meth c RX2 wsX2_worth cX2_worth 6 (some .int)) (K : Kx sx D (tyL cI cZ cO) A s) (a_laws : Nat) (a_laws_codes : Nat) (a_laws_lengths : Nat) (a_laws_letters : Nat) (a_laws_stack : Nat) (a_ar : Nat) (ar_n : Nat) (laws_size : Int32) (laws_holds : Int32) (laws_letters : Nat → Int32) (ar : Nat → Int32) (r0 : Int32) (o_laws_stack : Nat → Int32)   (k5 : (Nat → Int32) → Int32 → Int32 → Int32 → Option (Int32 × (Nat → Int32))) (hk5 : ∀ (laws_stack : Nat → Int32) (v2 : Int32) (v3 : Int32) (v4 : Int32) (H : Heap) (locs : List Loc) (ls : Array Slot), k5 laws_stack v2 v3 v4 = some (r0, o_laws_stack) → Wo D A s [(oX2 a_laws (.int laws_size) (.int laws_holds) (.ref a_laws_codes) (.ref a_laws_lengths) (.ref a_laws_letters) (.ref a_laws_stack)), (a_laws_letters, .inl (cI, 6, .inl laws_letters)), (a_laws_stack, .inl (cI, 241, .inl laws_stack)), (a_ar, .inl (cI, ar_n, .inl ar))] H locs → lv_has ls 6 [(0, .ref a_laws), (1, .ref a_ar), (2, .int v2), (3, .int v3), (4, .int v4)] → W p l e rm_X2_worth s m args below meth c H locs 0 0 (MQ below (QcI D A r0 [(oX2 a_laws (.int laws_size) (.int laws_holds) (.ref a_laws_codes) (.ref a_laws_lengths) (.ref a_laws_letters) (.ref a_laws_stack)), (a_laws_letters, .inl (cI, 6, .inl laws_letters)), (a_laws_stack, .inl (cI, 241, .inl o_laws_stack)), (a_ar, .inl (cI, ar_n, .inl ar))]) args s 0 0 A) (F0 m 5 ls [])) (laws_stack : Nat → Int32) (v2 : Int32) (v3 : Int32) (v4 : Int32) (t1 : Int32) (t2 : Int32) {H : Heap} {locs : List Loc} {ls : Array Slot} (hf : b_X2_worth_106 laws_letters ar ar_n k5 laws_stack v2 v3 v4 t1 t2 = some (r0, o_laws_stack)) (hw : Wo D A s [(oX2 a_laws (.int laws_size) (.int laws_holds) (.ref a_laws_codes) (.ref a_laws_lengths) (.ref a_laws_letters) (.ref a_laws_stack)), (a_laws_letters, .inl (cI, 6, .inl laws_letters)), (a_laws_stack, .inl (cI, 241, .inl laws_stack)), (a_ar, .inl (cI, ar_n, .inl ar))] H locs) (hl : lv_has ls 6 [(0, .ref a_laws), (1, .ref a_ar), (2, .int v2), (3, .int v3), (4, .int v4)]) : W p l e rm_X2_worth s m args below meth c H locs 0 0 (MQ below (QcI D A r0 [(oX2 a_laws (.int laws_size) (.int laws_holds) (.ref a_laws_codes) (.ref a_laws_lengths) (.ref a_laws_letters) (.ref a_laws_stack)), (a_laws_letters, .inl (cI, 6, .inl laws_letters)), (a_laws_stack, .inl (cI, 241, .inl o_laws_stack)), (a_ar, .inl (cI, ar_n, .inl ar))]) args s 0 0 A) (F0 m 106 ls [.int t2, .int t1, .ref a_laws_stack]) := by
  obtain ⟨hx, hb, hml, hown, hts, hr, hlk⟩ := id C
  obtain ⟨hK, hX, hA⟩ := id K
  unfold b_X2_worth_106 at hf
  obtain ⟨hc_1, hf⟩ := gd_some hf
  obtain ⟨laws_stack_2, e_laws_stack_2, hf⟩ := bnd_some hf
  refine va_iast hx hb hK hw.1 hw.2.1 hw.2.2 2 0 rfl rfl (inB_in hc_1) dX2_worth_106 (fun H locs hP hD hS => ?_)
  have hw : Wo D A s [(oX2 a_laws (.int laws_size) (.int laws_holds) (.ref a_laws_codes) (.ref a_laws_lengths) (.ref a_laws_letters) (.ref a_laws_stack)), (a_laws_letters, .inl (cI, 6, .inl laws_letters)), (a_laws_stack, .inl (cI, 241, .inl laws_stack_2)), (a_ar, .inl (cI, ar_n, .inl ar))] H locs := by rw [e_laws_stack_2]; exact ⟨hP, hD, hS⟩
  refine lv_goto (tgt := 173) hx hb dX2_worth_107 (by decide) ?_
  exact q_X2_worth_173 C K a_laws a_laws_codes a_laws_lengths a_laws_letters a_laws_stack a_ar ar_n laws_size laws_holds laws_letters ar r0 o_laws_stack k5 hk5 laws_stack_2 v2 v3 v4 hf hw (lv_sub hl [0, 1, 2, 3, 4] rfl)
set_option maxHeartbeats 4000000 in
set_option maxRecDepth 100000 in
theorem q_X2_worth_78 {p : Program} {l : Launch} {e : Env} {s : State} {m : MethodId} {args : Array Value} {below : List Frame} {meth : Method} {c : Code} {sx : List sx_T} {D : va_G} {cI cZ cO : ClassId} {A : Nat → Prop} (C : Cx p s m args meth c RX2 wsX2_worth cX2_worth 6 (some .int)) (K : Kx sx D (tyL cI cZ cO) A s) (a_laws : Nat) (a_laws_codes : Nat) (a_laws_lengths : Nat) (a_laws_letters : Nat) (a_laws_stack : Nat) (a_ar : Nat) (ar_n : Nat) (laws_size : Int32) (laws_holds : Int32) (laws_letters : Nat → Int32) (ar : Nat → Int32) (r0 : Int32) (o_laws_stack : Nat → Int32)   (k5 : (Nat → Int32) → Int32 → Int32 → Int32 → Option (Int32 × (Nat → Int32))) (hk5 : ∀ (laws_stack : Nat → Int32) (v2 : Int32) (v3 : Int32) (v4 : Int32) (H : Heap) (locs : List Loc) (ls : Array Slot), k5 laws_stack v2 v3 v4 = some (r0, o_laws_stack) → Wo D A s [(oX2 a_laws (.int laws_size) (.int laws_holds) (.ref a_laws_codes) (.ref a_laws_lengths) (.ref a_laws_letters) (.ref a_laws_stack)), (a_laws_letters, .inl (cI, 6, .inl laws_letters)), (a_laws_stack, .inl (cI, 241, .inl laws_stack)), (a_ar, .inl (cI, ar_n, .inl ar))] H locs → lv_has ls 6 [(0, .ref a_laws), (1, .ref a_ar), (2, .int v2), (3, .int v3), (4, .int v4)] → W p l e rm_X2_worth s m args below meth c H locs 0 0 (MQ below (QcI D A r0 [(oX2 a_laws (.int laws_size) (.int laws_holds) (.ref a_laws_codes) (.ref a_laws_lengths) (.ref a_laws_letters) (.ref a_laws_stack)), (a_laws_letters, .inl (cI, 6, .inl laws_letters)), (a_laws_stack, .inl (cI, 241, .inl o_laws_stack)), (a_ar, .inl (cI, ar_n, .inl ar))]) args s 0 0 A) (F0 m 5 ls [])) (laws_stack : Nat → Int32) (v2 : Int32) (v3 : Int32) (v4 : Int32) (v5 : Int32) {H : Heap} {locs : List Loc} {ls : Array Slot} (hf : b_X2_worth_78 laws_letters ar ar_n k5 laws_stack v2 v3 v4 v5 = some (r0, o_laws_stack)) (hw : Wo D A s [(oX2 a_laws (.int laws_size) (.int laws_holds) (.ref a_laws_codes) (.ref a_laws_lengths) (.ref a_laws_letters) (.ref a_laws_stack)), (a_laws_letters, .inl (cI, 6, .inl laws_letters)), (a_laws_stack, .inl (cI, 241, .inl laws_stack)), (a_ar, .inl (cI, ar_n, .inl ar))] H locs) (hl : lv_has ls 6 [(0, .ref a_laws), (1, .ref a_ar), (2, .int v2), (3, .int v3), (4, .int v4), (5, .int v5)]) : W p l e rm_X2_worth s m args below meth c H locs 0 0 (MQ below (QcI D A r0 [(oX2 a_laws (.int laws_size) (.int laws_holds) (.ref a_laws_codes) (.ref a_laws_lengths) (.ref a_laws_letters) (.ref a_laws_stack)), (a_laws_letters, .inl (cI, 6, .inl laws_letters)), (a_laws_stack, .inl (cI, 241, .inl o_laws_stack)), (a_ar, .inl (cI, ar_n, .inl ar))]) args s 0 0 A) (F0 m 78 ls []) := by
  obtain ⟨hx, hb, hml, hown, hts, hr, hlk⟩ := id C
  obtain ⟨hK, hX, hA⟩ := id K
  unfold b_X2_worth_78 at hf
  obtain ⟨v3_1, e_v3_1, hf⟩ := bnd_some hf
  refine lv_iinc (v := v3_1) (lv' := [(3, .int v3_1), (0, .ref a_laws), (1, .ref a_ar), (2, .int v2), (4, .int v4), (5, .int v5)]) hx hb dX2_worth_78 hl (k := 3) rfl (by rw [e_v3_1]; rfl) (by decide) rfl (fun ls hl => ?_)
  refine lv_aload_n hx hb dX2_worth_81 rfl (lv_at hl 1 rfl) ?_
  refine va_get (ci := 2) (v := .ref a_laws_stack) (C := RX2) (T := TX2) (N := 6) hx hb hts in_X2_worth_X2 hown hK hw.1 0 rfl rfl 5 (by decide) (hts _ lk_X2_worth_0) (fun _ h9 => h9) rfl dX2_worth_82 ?_
  refine lv_iload_n hx hb dX2_worth_85 rfl (lv_at hl 0 rfl) ?_
  refine lv_iload hx hb dX2_worth_86 (lv_at hl 5 rfl) ?_
  refine lv_if_lt (tgt := 96) hx hb dX2_worth_88 (by decide) (fun hc => ?_) (fun hc => ?_)
  · have hf := (if_pos hc).symm.trans hf
    refine lv_aload_n hx hb dX2_worth_96 rfl (lv_at hl 1 rfl) ?_
    refine va_get (ci := 2) (v := .ref a_laws_letters) (C := RX2) (T := TX2) (N := 6) hx hb hts in_X2_worth_X2 hown hK hw.1 0 rfl rfl 4 (by decide) (hts _ lk_X2_worth_4) (fun _ h9 => h9) rfl dX2_worth_97 ?_
    refine lv_bipush (v := (-14 : Int32)) hx hb dX2_worth_100 (by decide) ?_
    refine lv_iload hx hb dX2_worth_102 (lv_at hl 5 rfl) ?_
    refine lv_isub hx hb dX2_worth_104 ?_
    obtain ⟨hc_2, hf⟩ := gd_some hf
    refine va_iald hx hb hK hw.1 1 0 rfl rfl (inB_in hc_2) dX2_worth_105 ?_
    exact q_X2_worth_106 C K a_laws a_laws_codes a_laws_lengths a_laws_letters a_laws_stack a_ar ar_n laws_size laws_holds laws_letters ar r0 o_laws_stack k5 hk5 laws_stack v2 v3_1 v4 v3_1 (laws_letters ((-14 : Int32) - v5).toNatClampNeg) hf hw (lv_sub hl [1, 2, 3, 0, 4] rfl)
  · have hf := (if_neg hc).symm.trans hf
    refine lv_iload hx hb dX2_worth_91 (lv_at hl 5 rfl) ?_
    refine lv_goto (tgt := 106) hx hb dX2_worth_93 (by decide) ?_
    exact q_X2_worth_106 C K a_laws a_laws_codes a_laws_lengths a_laws_letters a_laws_stack a_ar ar_n laws_size laws_holds laws_letters ar r0 o_laws_stack k5 hk5 laws_stack v2 v3_1 v4 v3_1 v5 hf hw (lv_sub hl [1, 2, 3, 0, 4] rfl)
set_option maxHeartbeats 4000000 in
set_option maxRecDepth 100000 in
theorem q_X2_worth_138 {p : Program} {l : Launch} {e : Env} {s : State} {m : MethodId} {args : Array Value} {below : List Frame} {meth : Method} {c : Code} {sx : List sx_T} {D : va_G} {cI cZ cO : ClassId} {A : Nat → Prop} (C : Cx p s m args meth c RX2 wsX2_worth cX2_worth 6 (some .int)) (K : Kx sx D (tyL cI cZ cO) A s) (a_laws : Nat) (a_laws_codes : Nat) (a_laws_lengths : Nat) (a_laws_letters : Nat) (a_laws_stack : Nat) (a_ar : Nat) (ar_n : Nat) (laws_size : Int32) (laws_holds : Int32) (laws_letters : Nat → Int32) (ar : Nat → Int32) (r0 : Int32) (o_laws_stack : Nat → Int32)   (k5 : (Nat → Int32) → Int32 → Int32 → Int32 → Option (Int32 × (Nat → Int32))) (hk5 : ∀ (laws_stack : Nat → Int32) (v2 : Int32) (v3 : Int32) (v4 : Int32) (H : Heap) (locs : List Loc) (ls : Array Slot), k5 laws_stack v2 v3 v4 = some (r0, o_laws_stack) → Wo D A s [(oX2 a_laws (.int laws_size) (.int laws_holds) (.ref a_laws_codes) (.ref a_laws_lengths) (.ref a_laws_letters) (.ref a_laws_stack)), (a_laws_letters, .inl (cI, 6, .inl laws_letters)), (a_laws_stack, .inl (cI, 241, .inl laws_stack)), (a_ar, .inl (cI, ar_n, .inl ar))] H locs → lv_has ls 6 [(0, .ref a_laws), (1, .ref a_ar), (2, .int v2), (3, .int v3), (4, .int v4)] → W p l e rm_X2_worth s m args below meth c H locs 0 0 (MQ below (QcI D A r0 [(oX2 a_laws (.int laws_size) (.int laws_holds) (.ref a_laws_codes) (.ref a_laws_lengths) (.ref a_laws_letters) (.ref a_laws_stack)), (a_laws_letters, .inl (cI, 6, .inl laws_letters)), (a_laws_stack, .inl (cI, 241, .inl o_laws_stack)), (a_ar, .inl (cI, ar_n, .inl ar))]) args s 0 0 A) (F0 m 5 ls [])) (laws_stack : Nat → Int32) (v2 : Int32) (v3 : Int32) (v4 : Int32) (v5 : Int32) {H : Heap} {locs : List Loc} {ls : Array Slot} (hf : b_X2_worth_138 laws_letters ar ar_n k5 laws_stack v2 v3 v4 v5 = some (r0, o_laws_stack)) (hw : Wo D A s [(oX2 a_laws (.int laws_size) (.int laws_holds) (.ref a_laws_codes) (.ref a_laws_lengths) (.ref a_laws_letters) (.ref a_laws_stack)), (a_laws_letters, .inl (cI, 6, .inl laws_letters)), (a_laws_stack, .inl (cI, 241, .inl laws_stack)), (a_ar, .inl (cI, ar_n, .inl ar))] H locs) (hl : lv_has ls 6 [(0, .ref a_laws), (1, .ref a_ar), (2, .int v2), (3, .int v3), (4, .int v4), (5, .int v5)]) : W p l e rm_X2_worth s m args below meth c H locs 0 0 (MQ below (QcI D A r0 [(oX2 a_laws (.int laws_size) (.int laws_holds) (.ref a_laws_codes) (.ref a_laws_lengths) (.ref a_laws_letters) (.ref a_laws_stack)), (a_laws_letters, .inl (cI, 6, .inl laws_letters)), (a_laws_stack, .inl (cI, 241, .inl o_laws_stack)), (a_ar, .inl (cI, ar_n, .inl ar))]) args s 0 0 A) (F0 m 138 ls []) := by
  obtain ⟨hx, hb, hml, hown, hts, hr, hlk⟩ := id C
  obtain ⟨hK, hX, hA⟩ := id K
  unfold b_X2_worth_138 at hf
  refine lv_iload_n hx hb dX2_worth_138 rfl (lv_at hl 3 rfl) ?_
  refine lv_iconst (v := (1 : Int32)) hx hb dX2_worth_139 (by decide) ?_
  refine lv_icmp_lt (tgt := 173) hx hb dX2_worth_140 (by decide) (fun hc => ?_) (fun hc => ?_)
  · have hf := (if_pos hc).symm.trans hf
    exact q_X2_worth_173 C K a_laws a_laws_codes a_laws_lengths a_laws_letters a_laws_stack a_ar ar_n laws_size laws_holds laws_letters ar r0 o_laws_stack k5 hk5 laws_stack v2 v3 v4 hf hw (lv_sub hl [0, 1, 2, 3, 4] rfl)
  · have hf := (if_neg hc).symm.trans hf
    obtain ⟨v3_1, e_v3_1, hf⟩ := bnd_some hf
    refine lv_iinc (v := v3_1) (lv' := [(3, .int v3_1), (0, .ref a_laws), (1, .ref a_ar), (2, .int v2), (4, .int v4), (5, .int v5)]) hx hb dX2_worth_143 hl (k := 3) rfl (by rw [e_v3_1]; rfl) (by decide) rfl (fun ls hl => ?_)
    refine lv_aload_n hx hb dX2_worth_146 rfl (lv_at hl 1 rfl) ?_
    refine va_get (ci := 2) (v := .ref a_laws_stack) (C := RX2) (T := TX2) (N := 6) hx hb hts in_X2_worth_X2 hown hK hw.1 0 rfl rfl 5 (by decide) (hts _ lk_X2_worth_0) (fun _ h9 => h9) rfl dX2_worth_147 ?_
    refine lv_iload_n hx hb dX2_worth_150 rfl (lv_at hl 0 rfl) ?_
    refine lv_iload hx hb dX2_worth_151 (lv_at hl 5 rfl) ?_
    refine lv_aload_n hx hb dX2_worth_153 rfl (lv_at hl 1 rfl) ?_
    refine va_get (ci := 2) (v := .ref a_laws_stack) (C := RX2) (T := TX2) (N := 6) hx hb hts in_X2_worth_X2 hown hK hw.1 0 rfl rfl 5 (by decide) (hts _ lk_X2_worth_0) (fun _ h9 => h9) rfl dX2_worth_154 ?_
    refine lv_iload_n hx hb dX2_worth_157 rfl (lv_at hl 0 rfl) ?_
    obtain ⟨hc_2, hf⟩ := gd_some hf
    refine va_iald hx hb hK hw.1 2 0 rfl rfl (inB_in hc_2) dX2_worth_158 ?_
    refine lv_i2l (v := (laws_stack v3_1.toNatClampNeg).toInt64) hx hb dX2_worth_159 rfl ?_
    refine lv_aload_n hx hb dX2_worth_160 rfl (lv_at hl 1 rfl) ?_
    refine va_get (ci := 2) (v := .ref a_laws_stack) (C := RX2) (T := TX2) (N := 6) hx hb hts in_X2_worth_X2 hown hK hw.1 0 rfl rfl 5 (by decide) (hts _ lk_X2_worth_0) (fun _ h9 => h9) rfl dX2_worth_161 ?_
    refine lv_iload_n hx hb dX2_worth_164 rfl (lv_at hl 0 rfl) ?_
    refine lv_iconst (v := (1 : Int32)) hx hb dX2_worth_165 (by decide) ?_
    refine lv_iadd hx hb dX2_worth_166 ?_
    obtain ⟨hc_3, hf⟩ := gd_some hf
    refine va_iald hx hb hK hw.1 2 0 rfl rfl (inB_in hc_3) dX2_worth_167 ?_
    refine lv_i2l (v := (laws_stack (v3_1 + (1 : Int32)).toNatClampNeg).toInt64) hx hb dX2_worth_168 rfl ?_
    obtain ⟨r_4, hg_5, hf⟩ := ob1_some hf
    refine cl_SiA (As := [.int v5, .long ((laws_stack v3_1.toNatClampNeg).toInt64), .long ((laws_stack (v3_1 + (1 : Int32)).toNatClampNeg).toInt64)]) (rest := [.int v3_1, .ref a_laws_stack]) C K hw (k_X2_combine r_4 v5 ((laws_stack v3_1.toNatClampNeg).toInt64) ((laws_stack (v3_1 + (1 : Int32)).toNatClampNeg).toInt64) hg_5) [] rfl (by decide) rfl rfl ⟨callB_of 3 hts (fun w h => gX2_worth_X2_combine w (List.mem_append_right _ h)) rfl rfl rfl (hts _ lk_X2_worth_1) (hts _ lk_X2_worth_5) (by decide +kernel) ⟨Nat.le_of_ble_eq_true rfl, Nat.le_of_ble_eq_true rfl⟩, hts _ lk_X2_worth_6⟩ rfl hl rfl (Nat.le_of_ble_eq_true rfl) dX2_worth_169 ⟨Nat.zero_le _, Nat.zero_le _⟩ (fun H locs hw => ?_)
    have hw : Wo D A s [(oX2 a_laws (.int laws_size) (.int laws_holds) (.ref a_laws_codes) (.ref a_laws_lengths) (.ref a_laws_letters) (.ref a_laws_stack)), (a_laws_letters, .inl (cI, 6, .inl laws_letters)), (a_laws_stack, .inl (cI, 241, .inl laws_stack)), (a_ar, .inl (cI, ar_n, .inl ar))] H locs := hw
    obtain ⟨hc_6, hf⟩ := gd_some hf
    obtain ⟨laws_stack_7, e_laws_stack_7, hf⟩ := bnd_some hf
    refine va_iast hx hb hK hw.1 hw.2.1 hw.2.2 2 0 rfl rfl (inB_in hc_6) dX2_worth_172 (fun H locs hP hD hS => ?_)
    have hw : Wo D A s [(oX2 a_laws (.int laws_size) (.int laws_holds) (.ref a_laws_codes) (.ref a_laws_lengths) (.ref a_laws_letters) (.ref a_laws_stack)), (a_laws_letters, .inl (cI, 6, .inl laws_letters)), (a_laws_stack, .inl (cI, 241, .inl laws_stack_7)), (a_ar, .inl (cI, ar_n, .inl ar))] H locs := by rw [e_laws_stack_7]; exact ⟨hP, hD, hS⟩
    exact q_X2_worth_173 C K a_laws a_laws_codes a_laws_lengths a_laws_letters a_laws_stack a_ar ar_n laws_size laws_holds laws_letters ar r0 o_laws_stack k5 hk5 laws_stack_7 v2 v3_1 v4 hf hw (lv_sub hl [1, 2, 3, 0, 4] rfl)
set_option maxHeartbeats 4000000 in
set_option maxRecDepth 100000 in
theorem q_X2_worth_5 {p : Program} {l : Launch} {e : Env} {s : State} {m : MethodId} {args : Array Value} {below : List Frame} {meth : Method} {c : Code} {sx : List sx_T} {D : va_G} {cI cZ cO : ClassId} {A : Nat → Prop} (C : Cx p s m args meth c RX2 wsX2_worth cX2_worth 6 (some .int)) (K : Kx sx D (tyL cI cZ cO) A s) (a_laws : Nat) (a_laws_codes : Nat) (a_laws_lengths : Nat) (a_laws_letters : Nat) (a_laws_stack : Nat) (a_ar : Nat) (ar_n : Nat) (laws_size : Int32) (laws_holds : Int32) (laws_letters : Nat → Int32) (ar : Nat → Int32) (r0 : Int32) (o_laws_stack : Nat → Int32)   (k5 : (Nat → Int32) → Int32 → Int32 → Int32 → Option (Int32 × (Nat → Int32))) (hk5 : ∀ (laws_stack : Nat → Int32) (v2 : Int32) (v3 : Int32) (v4 : Int32) (H : Heap) (locs : List Loc) (ls : Array Slot), k5 laws_stack v2 v3 v4 = some (r0, o_laws_stack) → Wo D A s [(oX2 a_laws (.int laws_size) (.int laws_holds) (.ref a_laws_codes) (.ref a_laws_lengths) (.ref a_laws_letters) (.ref a_laws_stack)), (a_laws_letters, .inl (cI, 6, .inl laws_letters)), (a_laws_stack, .inl (cI, 241, .inl laws_stack)), (a_ar, .inl (cI, ar_n, .inl ar))] H locs → lv_has ls 6 [(0, .ref a_laws), (1, .ref a_ar), (2, .int v2), (3, .int v3), (4, .int v4)] → W p l e rm_X2_worth s m args below meth c H locs 0 0 (MQ below (QcI D A r0 [(oX2 a_laws (.int laws_size) (.int laws_holds) (.ref a_laws_codes) (.ref a_laws_lengths) (.ref a_laws_letters) (.ref a_laws_stack)), (a_laws_letters, .inl (cI, 6, .inl laws_letters)), (a_laws_stack, .inl (cI, 241, .inl o_laws_stack)), (a_ar, .inl (cI, ar_n, .inl ar))]) args s 0 0 A) (F0 m 5 ls [])) (laws_stack : Nat → Int32) (v2 : Int32) (v3 : Int32) (v4 : Int32) {H : Heap} {locs : List Loc} {ls : Array Slot} (hf : b_X2_worth_5 laws_letters ar ar_n k5 laws_stack v2 v3 v4 = some (r0, o_laws_stack)) (hw : Wo D A s [(oX2 a_laws (.int laws_size) (.int laws_holds) (.ref a_laws_codes) (.ref a_laws_lengths) (.ref a_laws_letters) (.ref a_laws_stack)), (a_laws_letters, .inl (cI, 6, .inl laws_letters)), (a_laws_stack, .inl (cI, 241, .inl laws_stack)), (a_ar, .inl (cI, ar_n, .inl ar))] H locs) (hl : lv_has ls 6 [(0, .ref a_laws), (1, .ref a_ar), (2, .int v2), (3, .int v3), (4, .int v4)]) : W p l e rm_X2_worth s m args below meth c H locs 0 0 (MQ below (QcI D A r0 [(oX2 a_laws (.int laws_size) (.int laws_holds) (.ref a_laws_codes) (.ref a_laws_lengths) (.ref a_laws_letters) (.ref a_laws_stack)), (a_laws_letters, .inl (cI, 6, .inl laws_letters)), (a_laws_stack, .inl (cI, 241, .inl o_laws_stack)), (a_ar, .inl (cI, ar_n, .inl ar))]) args s 0 0 A) (F0 m 5 ls []) := by
  obtain ⟨hx, hb, hml, hown, hts, hr, hlk⟩ := id C
  obtain ⟨hK, hX, hA⟩ := id K
  unfold b_X2_worth_5 at hf
  refine lv_iload hx hb dX2_worth_5 (lv_at hl 4 rfl) ?_
  refine lv_iload_n hx hb dX2_worth_7 rfl (lv_at hl 2 rfl) ?_
  refine lv_icmp_ge (tgt := 179) hx hb dX2_worth_8 (by decide) (fun hc => ?_) (fun hc => ?_)
  · have hf := (if_pos hc).symm.trans hf
    refine lv_iconst (v := (0 : Int32)) hx hb dX2_worth_179 (by decide) ?_
    clear hk5; cases hf
    exact retI C hw dX2_worth_180 rfl
  · have hf := (if_neg hc).symm.trans hf
    refine lv_aload_n hx hb dX2_worth_11 rfl (lv_at hl 1 rfl) ?_
    refine lv_iload hx hb dX2_worth_12 (lv_at hl 4 rfl) ?_
    obtain ⟨hc_1, hf⟩ := gd_some hf
    refine va_iald hx hb hK hw.1 3 0 rfl rfl (inB_in hc_1) dX2_worth_14 ?_
    obtain ⟨v5_2, e_v5_2, hf⟩ := bnd_some hf
    refine lv_nmi e_v5_2 ?_
    refine lv_istore (lv' := [(5, .int v5_2), (0, .ref a_laws), (1, .ref a_ar), (2, .int v2), (3, .int v3), (4, .int v4)]) hx hb dX2_worth_15 hl (by decide) rfl (fun ls hl => ?_)
    refine lv_iload hx hb dX2_worth_17 (lv_at hl 0 rfl) ?_
    refine lv_bipush (v := (-13 : Int32)) hx hb dX2_worth_19 (by decide) ?_
    refine lv_icmp_ne (tgt := 31) hx hb dX2_worth_21 (by decide) (fun hc => ?_) (fun hc => ?_)
    · have hf := (if_neg hc).symm.trans hf
      refine lv_iload hx hb dX2_worth_31 (lv_at hl 0 rfl) ?_
      refine lv_bipush (v := (-12 : Int32)) hx hb dX2_worth_33 (by decide) ?_
      refine lv_icmp_ne (tgt := 66) hx hb dX2_worth_35 (by decide) (fun hc => ?_) (fun hc => ?_)
      · have hf := (if_neg hc).symm.trans hf
        refine lv_iload hx hb dX2_worth_66 (lv_at hl 0 rfl) ?_
        refine lv_if_ge (tgt := 78) hx hb dX2_worth_68 (by decide) (fun hc => ?_) (fun hc => ?_)
        · have hf := (if_pos hc).symm.trans hf
          exact q_X2_worth_78 C K a_laws a_laws_codes a_laws_lengths a_laws_letters a_laws_stack a_ar ar_n laws_size laws_holds laws_letters ar r0 o_laws_stack k5 hk5 laws_stack v2 v3 v4 v5_2 hf hw (lv_sub hl [1, 2, 3, 4, 5, 0] rfl)
        · have hf := (if_neg hc).symm.trans hf
          refine lv_iload hx hb dX2_worth_71 (lv_at hl 0 rfl) ?_
          refine lv_bipush (v := (-14 : Int32)) hx hb dX2_worth_73 (by decide) ?_
          refine lv_icmp_gt (tgt := 110) hx hb dX2_worth_75 (by decide) (fun hc => ?_) (fun hc => ?_)
          · have hf := (if_pos hc).symm.trans hf
            refine lv_iload hx hb dX2_worth_110 (lv_at hl 0 rfl) ?_
            refine lv_bipush (v := (-11 : Int32)) hx hb dX2_worth_112 (by decide) ?_
            refine lv_icmp_ne (tgt := 138) hx hb dX2_worth_114 (by decide) (fun hc => ?_) (fun hc => ?_)
            · have hf := (if_neg hc).symm.trans hf
              exact q_X2_worth_138 C K a_laws a_laws_codes a_laws_lengths a_laws_letters a_laws_stack a_ar ar_n laws_size laws_holds laws_letters ar r0 o_laws_stack k5 hk5 laws_stack v2 v3 v4 v5_2 hf hw (lv_sub hl [1, 2, 3, 4, 5, 0] rfl)
            · have hf := (if_pos hc).symm.trans hf
              refine lv_iload_n hx hb dX2_worth_117 rfl (lv_at hl 4 rfl) ?_
              refine lv_if_lt (tgt := 138) hx hb dX2_worth_118 (by decide) (fun hc => ?_) (fun hc => ?_)
              · have hf := (if_pos hc).symm.trans hf
                exact q_X2_worth_138 C K a_laws a_laws_codes a_laws_lengths a_laws_letters a_laws_stack a_ar ar_n laws_size laws_holds laws_letters ar r0 o_laws_stack k5 hk5 laws_stack v2 v3 v4 v5_2 hf hw (lv_sub hl [1, 2, 3, 4, 5, 0] rfl)
              · have hf := (if_neg hc).symm.trans hf
                refine lv_aload_n hx hb dX2_worth_121 rfl (lv_at hl 1 rfl) ?_
                refine va_get (ci := 2) (v := .ref a_laws_stack) (C := RX2) (T := TX2) (N := 6) hx hb hts in_X2_worth_X2 hown hK hw.1 0 rfl rfl 5 (by decide) (hts _ lk_X2_worth_0) (fun _ h9 => h9) rfl dX2_worth_122 ?_
                refine lv_iload_n hx hb dX2_worth_125 rfl (lv_at hl 4 rfl) ?_
                refine lv_iconst (v := (1 : Int32)) hx hb dX2_worth_126 (by decide) ?_
                refine lv_aload_n hx hb dX2_worth_127 rfl (lv_at hl 1 rfl) ?_
                refine va_get (ci := 2) (v := .ref a_laws_stack) (C := RX2) (T := TX2) (N := 6) hx hb hts in_X2_worth_X2 hown hK hw.1 0 rfl rfl 5 (by decide) (hts _ lk_X2_worth_0) (fun _ h9 => h9) rfl dX2_worth_128 ?_
                refine lv_iload_n hx hb dX2_worth_131 rfl (lv_at hl 4 rfl) ?_
                obtain ⟨hc_3, hf⟩ := gd_some hf
                refine va_iald hx hb hK hw.1 2 0 rfl rfl (inB_in hc_3) dX2_worth_132 ?_
                refine lv_isub hx hb dX2_worth_133 ?_
                obtain ⟨hc_4, hf⟩ := gd_some hf
                obtain ⟨laws_stack_5, e_laws_stack_5, hf⟩ := bnd_some hf
                refine va_iast hx hb hK hw.1 hw.2.1 hw.2.2 2 0 rfl rfl (inB_in hc_4) dX2_worth_134 (fun H locs hP hD hS => ?_)
                have hw : Wo D A s [(oX2 a_laws (.int laws_size) (.int laws_holds) (.ref a_laws_codes) (.ref a_laws_lengths) (.ref a_laws_letters) (.ref a_laws_stack)), (a_laws_letters, .inl (cI, 6, .inl laws_letters)), (a_laws_stack, .inl (cI, 241, .inl laws_stack_5)), (a_ar, .inl (cI, ar_n, .inl ar))] H locs := by rw [e_laws_stack_5]; exact ⟨hP, hD, hS⟩
                refine lv_goto (tgt := 173) hx hb dX2_worth_135 (by decide) ?_
                exact q_X2_worth_173 C K a_laws a_laws_codes a_laws_lengths a_laws_letters a_laws_stack a_ar ar_n laws_size laws_holds laws_letters ar r0 o_laws_stack k5 hk5 laws_stack_5 v2 v3 v4 hf hw (lv_sub hl [1, 2, 3, 4, 5] rfl)
          · have hf := (if_neg hc).symm.trans hf
            exact q_X2_worth_78 C K a_laws a_laws_codes a_laws_lengths a_laws_letters a_laws_stack a_ar ar_n laws_size laws_holds laws_letters ar r0 o_laws_stack k5 hk5 laws_stack v2 v3 v4 v5_2 hf hw (lv_sub hl [1, 2, 3, 4, 5, 0] rfl)
      · have hf := (if_pos hc).symm.trans hf
        refine lv_iconst (v := (-1 : Int32)) hx hb dX2_worth_38 (by decide) ?_
        refine lv_istore_n (lv' := [(3, .int (-1 : Int32)), (5, .int v5_2), (0, .ref a_laws), (1, .ref a_ar), (2, .int v2), (4, .int v4)]) hx hb dX2_worth_39 rfl hl (by decide) rfl (fun ls hl => ?_)
        refine lv_aload_n hx hb dX2_worth_40 rfl (lv_at hl 2 rfl) ?_
        refine va_get (ci := 2) (v := .ref a_laws_stack) (C := RX2) (T := TX2) (N := 6) hx hb hts in_X2_worth_X2 hown hK hw.1 0 rfl rfl 5 (by decide) (hts _ lk_X2_worth_0) (fun _ h9 => h9) rfl dX2_worth_41 ?_
        refine lv_iconst (v := (0 : Int32)) hx hb dX2_worth_44 (by decide) ?_
        obtain ⟨hc_6, hf⟩ := gd_some hf
        refine va_iald hx hb hK hw.1 2 0 rfl rfl (inB_in hc_6) dX2_worth_45 ?_
        refine lv_if_ne (tgt := 59) hx hb dX2_worth_46 (by decide) (fun hc => ?_) (fun hc => ?_)
        · have hf := (if_neg hc).symm.trans hf
          refine lv_iload hx hb dX2_worth_59 (lv_at hl 5 rfl) ?_
          exact q_X2_worth_61 C K a_laws a_laws_codes a_laws_lengths a_laws_letters a_laws_stack a_ar ar_n laws_size laws_holds laws_letters ar r0 o_laws_stack k5 hk5 laws_stack v2 (-1 : Int32) v4 hf hw (lv_sub hl [2, 3, 4, 0] rfl)
        · have hf := (if_pos hc).symm.trans hf
          refine lv_aload_n hx hb dX2_worth_49 rfl (lv_at hl 3 rfl) ?_
          refine lv_iload_n hx hb dX2_worth_50 rfl (lv_at hl 4 rfl) ?_
          refine lv_iload hx hb dX2_worth_51 (lv_at hl 5 rfl) ?_
          obtain ⟨r_7, hg_8, hf⟩ := ob1_some hf
          refine cl_SiA (As := [.ref a_ar, .int v2, .int v4]) (rest := []) C K hw (k_X2_endOfClause a_ar ar_n ar r_7 v2 v4 hg_8) [3] rfl (by decide) rfl rfl ⟨callB_of 3 hts (fun w h => gX2_worth_X2_endOfClause w (List.mem_append_right _ h)) rfl rfl rfl (hts _ lk_X2_worth_1) (hts _ lk_X2_worth_2) (by decide +kernel) ⟨Nat.le_of_ble_eq_true rfl, Nat.le_of_ble_eq_true rfl⟩, hts _ lk_X2_worth_3⟩ rfl hl rfl (Nat.le_of_ble_eq_true rfl) dX2_worth_53 ⟨Nat.zero_le _, Nat.zero_le _⟩ (fun H locs hw => ?_)
          have hw : Wo D A s [(oX2 a_laws (.int laws_size) (.int laws_holds) (.ref a_laws_codes) (.ref a_laws_lengths) (.ref a_laws_letters) (.ref a_laws_stack)), (a_laws_letters, .inl (cI, 6, .inl laws_letters)), (a_laws_stack, .inl (cI, 241, .inl laws_stack)), (a_ar, .inl (cI, ar_n, .inl ar))] H locs := hw
          refine lv_goto (tgt := 61) hx hb dX2_worth_56 (by decide) ?_
          exact q_X2_worth_61 C K a_laws a_laws_codes a_laws_lengths a_laws_letters a_laws_stack a_ar ar_n laws_size laws_holds laws_letters ar r0 o_laws_stack k5 hk5 laws_stack v2 (-1 : Int32) r_7 hf hw (lv_sub hl [2, 3, 4, 0] rfl)
    · have hf := (if_pos hc).symm.trans hf
      refine lv_aload_n hx hb dX2_worth_24 rfl (lv_at hl 1 rfl) ?_
      refine va_get (ci := 2) (v := .ref a_laws_stack) (C := RX2) (T := TX2) (N := 6) hx hb hts in_X2_worth_X2 hown hK hw.1 0 rfl rfl 5 (by decide) (hts _ lk_X2_worth_0) (fun _ h9 => h9) rfl dX2_worth_25 ?_
      refine lv_iconst (v := (0 : Int32)) hx hb dX2_worth_28 (by decide) ?_
      obtain ⟨hc_9, hf⟩ := gd_some hf
      refine va_iald hx hb hK hw.1 2 0 rfl rfl (inB_in hc_9) dX2_worth_29 ?_
      clear hk5; cases hf
      exact retI C hw dX2_worth_30 rfl
theorem qf_X2_worth_5 {p : Program} {l : Launch} {e : Env} {s : State} {m : MethodId} {args : Array Value} {below : List Frame} {meth : Method} {c : Code} {sx : List sx_T} {D : va_G} {cI cZ cO : ClassId} {A : Nat → Prop} (C : Cx p s m args meth c RX2 wsX2_worth cX2_worth 6 (some .int)) (K : Kx sx D (tyL cI cZ cO) A s) (a_laws : Nat) (a_laws_codes : Nat) (a_laws_lengths : Nat) (a_laws_letters : Nat) (a_laws_stack : Nat) (a_ar : Nat) (ar_n : Nat) (laws_size : Int32) (laws_holds : Int32) (laws_letters : Nat → Int32) (ar : Nat → Int32) (r0 : Int32) (o_laws_stack : Nat → Int32)    (n : Nat) : ∀ (laws_stack : Nat → Int32) (v2 : Int32) (v3 : Int32) (v4 : Int32) (H : Heap) (locs : List Loc) (ls : Array Slot), f_X2_worth_5 laws_letters ar ar_n  n laws_stack v2 v3 v4 = some (r0, o_laws_stack) → Wo D A s [(oX2 a_laws (.int laws_size) (.int laws_holds) (.ref a_laws_codes) (.ref a_laws_lengths) (.ref a_laws_letters) (.ref a_laws_stack)), (a_laws_letters, .inl (cI, 6, .inl laws_letters)), (a_laws_stack, .inl (cI, 241, .inl laws_stack)), (a_ar, .inl (cI, ar_n, .inl ar))] H locs → lv_has ls 6 [(0, .ref a_laws), (1, .ref a_ar), (2, .int v2), (3, .int v3), (4, .int v4)] → W p l e rm_X2_worth s m args below meth c H locs 0 0 (MQ below (QcI D A r0 [(oX2 a_laws (.int laws_size) (.int laws_holds) (.ref a_laws_codes) (.ref a_laws_lengths) (.ref a_laws_letters) (.ref a_laws_stack)), (a_laws_letters, .inl (cI, 6, .inl laws_letters)), (a_laws_stack, .inl (cI, 241, .inl o_laws_stack)), (a_ar, .inl (cI, ar_n, .inl ar))]) args s 0 0 A) (F0 m 5 ls []) := by
  induction n with
  | zero =>
    intro laws_stack v2 v3 v4 H locs ls hf
    have h9 : (none : Option (Int32 × (Nat → Int32))) = some (r0, o_laws_stack) := hf
    cases h9
  | succ n ih =>
    intro laws_stack v2 v3 v4 H locs ls hf hw hl
    exact q_X2_worth_5 C K a_laws a_laws_codes a_laws_lengths a_laws_letters a_laws_stack a_ar ar_n laws_size laws_holds laws_letters ar r0 o_laws_stack  (f_X2_worth_5 laws_letters ar ar_n  n) ih laws_stack v2 v3 v4 hf hw hl
set_option maxHeartbeats 4000000 in
set_option maxRecDepth 100000 in
theorem q_X2_worth_0 {p : Program} {l : Launch} {e : Env} {s : State} {m : MethodId} {args : Array Value} {below : List Frame} {meth : Method} {c : Code} {sx : List sx_T} {D : va_G} {cI cZ cO : ClassId} {A : Nat → Prop} (C : Cx p s m args meth c RX2 wsX2_worth cX2_worth 6 (some .int)) (K : Kx sx D (tyL cI cZ cO) A s) (a_laws : Nat) (a_laws_codes : Nat) (a_laws_lengths : Nat) (a_laws_letters : Nat) (a_laws_stack : Nat) (a_ar : Nat) (ar_n : Nat) (laws_size : Int32) (laws_holds : Int32) (laws_letters : Nat → Int32) (ar : Nat → Int32) (r0 : Int32) (o_laws_stack : Nat → Int32)    (laws_stack : Nat → Int32) (v2 : Int32) {H : Heap} {locs : List Loc} {ls : Array Slot} (hf : b_X2_worth_0 laws_letters ar ar_n  laws_stack v2 = some (r0, o_laws_stack)) (hw : Wo D A s [(oX2 a_laws (.int laws_size) (.int laws_holds) (.ref a_laws_codes) (.ref a_laws_lengths) (.ref a_laws_letters) (.ref a_laws_stack)), (a_laws_letters, .inl (cI, 6, .inl laws_letters)), (a_laws_stack, .inl (cI, 241, .inl laws_stack)), (a_ar, .inl (cI, ar_n, .inl ar))] H locs) (hl : lv_has ls 6 [(0, .ref a_laws), (1, .ref a_ar), (2, .int v2)]) : W p l e rm_X2_worth s m args below meth c H locs 0 0 (MQ below (QcI D A r0 [(oX2 a_laws (.int laws_size) (.int laws_holds) (.ref a_laws_codes) (.ref a_laws_lengths) (.ref a_laws_letters) (.ref a_laws_stack)), (a_laws_letters, .inl (cI, 6, .inl laws_letters)), (a_laws_stack, .inl (cI, 241, .inl o_laws_stack)), (a_ar, .inl (cI, ar_n, .inl ar))]) args s 0 0 A) (F0 m 0 ls []) := by
  obtain ⟨hx, hb, hml, hown, hts, hr, hlk⟩ := id C
  obtain ⟨hK, hX, hA⟩ := id K
  unfold b_X2_worth_0 at hf
  refine lv_iconst (v := (-1 : Int32)) hx hb dX2_worth_0 (by decide) ?_
  refine lv_istore_n (lv' := [(3, .int (-1 : Int32)), (0, .ref a_laws), (1, .ref a_ar), (2, .int v2)]) hx hb dX2_worth_1 rfl hl (by decide) rfl (fun ls hl => ?_)
  refine lv_iconst (v := (0 : Int32)) hx hb dX2_worth_2 (by decide) ?_
  refine lv_istore (lv' := [(4, .int (0 : Int32)), (3, .int (-1 : Int32)), (0, .ref a_laws), (1, .ref a_ar), (2, .int v2)]) hx hb dX2_worth_3 hl (by decide) rfl (fun ls hl => ?_)
  exact qf_X2_worth_5 C K a_laws a_laws_codes a_laws_lengths a_laws_letters a_laws_stack a_ar ar_n laws_size laws_holds laws_letters ar r0 o_laws_stack  fu laws_stack v2 (-1 : Int32) (0 : Int32) _ _ _ hf hw (lv_sub hl [2, 3, 4, 1, 0] rfl)
set_option maxHeartbeats 4000000 in
set_option maxRecDepth 100000 in
theorem k_X2_worth {l : Launch} {sx : List sx_T} {D : va_G} {cI cZ cO : ClassId} (a_laws : Nat) (a_laws_codes : Nat) (a_laws_lengths : Nat) (a_laws_letters : Nat) (a_laws_stack : Nat) (a_ar : Nat) (ar_n : Nat) (laws_size : Int32) (laws_holds : Int32) (laws_letters : Nat → Int32) (ar : Nat → Int32) (r0 : Int32) (o_laws_stack : Nat → Int32) (laws_stack : Nat → Int32) (p2 : Int32) (hF : f_X2_worth laws_letters ar ar_n laws_stack p2 = some (r0, o_laws_stack)) : CtI l yX2_worth wsX2_worth rm_X2_worth sx D (tyL cI cZ cO) [.ref a_laws, .ref a_ar, .int p2] [(oX2 a_laws (.int laws_size) (.int laws_holds) (.ref a_laws_codes) (.ref a_laws_lengths) (.ref a_laws_letters) (.ref a_laws_stack)), (a_laws_letters, .inl (cI, 6, .inl laws_letters)), (a_laws_stack, .inl (cI, 241, .inl laws_stack)), (a_ar, .inl (cI, ar_n, .inl ar))] r0 [(oX2 a_laws (.int laws_size) (.int laws_holds) (.ref a_laws_codes) (.ref a_laws_lengths) (.ref a_laws_letters) (.ref a_laws_stack)), (a_laws_letters, .inl (cI, 6, .inl laws_letters)), (a_laws_stack, .inl (cI, 241, .inl o_laws_stack)), (a_ar, .inl (cI, ar_n, .inl ar))] := by
  refine ctI_of (cc := cX2_worth) (ret := (some .int)) (maxL := 6) (by decide) rfl (Nat.le_of_ble_eq_true rfl) ?_
  intro p e s m below meth c A ls C K hw hl
  exact q_X2_worth_0 C K a_laws a_laws_codes a_laws_lengths a_laws_letters a_laws_stack a_ar ar_n laws_size laws_holds laws_letters ar r0 o_laws_stack laws_stack p2 hF hw (lv_sub hl [0, 1, 2] rfl)
abbrev rm_X2_riseBy : Room := { frames := 2, cells := 0, slots := 0, locals := 51 }
theorem in_X2_riseBy_X2 : ∀ w ∈ u_ws RX2 TX2 6, w ∈ wsX2_riseBy := fun w h => List.mem_cons_of_mem _ (bi_wsX20 w h)
theorem lk_X2_riseBy_0 : Cond.fieldLink RX2 9 "GloveHouses$Laws" "holds" "I" ∈ wsX2_riseBy := List.mem_cons_of_mem _ (bi_wsL_law0_r5 _ (List.mem_of_getElem? (i := 0) rfl))
theorem lk_X2_riseBy_1 : Cond.fieldLink RX2 28 "GloveHouses$Laws" "letters" "[I" ∈ wsX2_riseBy := List.mem_cons_of_mem _ (bi_wsL_law0_r5 _ (List.mem_of_getElem? (i := 5) rfl))
theorem lk_X2_riseBy_2 : Cond.fieldLink RX2 17 "GloveHouses$Laws" "codes" "[[I" ∈ wsX2_riseBy := List.mem_cons_of_mem _ (bi_wsL_law0_r5 _ (List.mem_of_getElem? (i := 2) rfl))
theorem lk_X2_riseBy_3 : Cond.fieldLink RX2 20 "GloveHouses$Laws" "lengths" "[I" ∈ wsX2_riseBy := List.mem_cons_of_mem _ (bi_wsL_law0_r5 _ (List.mem_of_getElem? (i := 3) rfl))
theorem lk_X2_riseBy_4 : Cond.methodLink RX2 51 Lib.Math.min.name ∈ wsX2_riseBy := List.mem_cons_of_mem _ (bi_wsL_law0_r30 _ (List.mem_of_getElem? (i := 11) rfl))
theorem lk_X2_riseBy_5 : Cond.static Lib.Math.min.name ∈ wsX2_riseBy := List.mem_cons_of_mem _ (bi_wsL_law0_r27 _ (List.mem_of_getElem? (i := 18) rfl))
theorem lk_X2_riseBy_6 : Cond.initialized "java/lang/Math" ∈ wsX2_riseBy := List.mem_cons_of_mem _ (bi_wsL_law0_r27 _ (List.mem_of_getElem? (i := 19) rfl))
theorem lk_X2_riseBy_7 : Cond.code Lib.Math.min.name Lib.Math.min.code 2 (some .int) ∈ wsX2_riseBy := List.mem_cons_of_mem _ (bi_wsL_law0_r27 _ (List.mem_of_getElem? (i := 20) rfl))
theorem lk_X2_riseBy_8 : Cond.methodLink RX2 57 Lib.Math.max.name ∈ wsX2_riseBy := List.mem_cons_of_mem _ (bi_wsL_law0_r30 _ (List.mem_of_getElem? (i := 12) rfl))
theorem lk_X2_riseBy_9 : Cond.static Lib.Math.max.name ∈ wsX2_riseBy := List.mem_cons_of_mem _ (bi_wsL_law0_r27 _ (List.mem_of_getElem? (i := 22) rfl))
theorem lk_X2_riseBy_10 : Cond.code Lib.Math.max.name Lib.Math.max.code 2 (some .int) ∈ wsX2_riseBy := List.mem_cons_of_mem _ (bi_wsL_law0_r27 _ (List.mem_of_getElem? (i := 23) rfl))
set_option maxHeartbeats 4000000 in
set_option maxRecDepth 100000 in
theorem q_X2_riseBy_99 {p : Program} {l : Launch} {e : Env} {s : State} {m : MethodId} {args : Array Value} {below : List Frame} {meth : Method} {c : Code} {sx : List sx_T} {D : va_G} {cI cZ cO : ClassId} {A : Nat → Prop} (C : Cx p s m args meth c RX2 wsX2_riseBy cX2_riseBy 8 (some .int)) (K : Kx sx D (tyL cI cZ cO) A s) (a_laws : Nat) (a_laws_codes : Nat) (a_laws_lengths : Nat) (a_laws_letters : Nat) (a_laws_stack : Nat) (rw : Nat → Nat) (laws_size : Int32) (laws_holds : Int32) (laws_lengths : Nat → Int32) (laws_c0 : Nat → Int32) (laws_c1 : Nat → Int32) (laws_c2 : Nat → Int32) (laws_c3 : Nat → Int32) (r0 : Int32) (o_laws_letters : Nat → Int32) (o_laws_stack : Nat → Int32)    (laws_letters : Nat → Int32) (laws_stack : Nat → Int32) (v7 : Int32) {H : Heap} {locs : List Loc} {ls : Array Slot} (hf : b_X2_riseBy_99 laws_holds laws_lengths laws_c0 laws_c1 laws_c2 laws_c3  laws_letters laws_stack v7 = some (r0, o_laws_letters, o_laws_stack)) (hw : Wo D A s [(oX2 a_laws (.int laws_size) (.int laws_holds) (.ref a_laws_codes) (.ref a_laws_lengths) (.ref a_laws_letters) (.ref a_laws_stack)), (a_laws_codes, .inl (cO, 4, .inr (.inr (.inr (.inr (rwF rw)))))), (a_laws_lengths, .inl (cI, 4, .inl laws_lengths)), (a_laws_letters, .inl (cI, 6, .inl laws_letters)), (a_laws_stack, .inl (cI, 241, .inl laws_stack)), ((rw 0), .inl (cI, 241, .inl laws_c0)), ((rw 1), .inl (cI, 241, .inl laws_c1)), ((rw 2), .inl (cI, 241, .inl laws_c2)), ((rw 3), .inl (cI, 241, .inl laws_c3))] H locs) (hl : lv_has ls 8 [(7, .int v7)]) : W p l e rm_X2_riseBy s m args below meth c H locs 0 0 (MQ below (QcI D A r0 [(oX2 a_laws (.int laws_size) (.int laws_holds) (.ref a_laws_codes) (.ref a_laws_lengths) (.ref a_laws_letters) (.ref a_laws_stack)), (a_laws_codes, .inl (cO, 4, .inr (.inr (.inr (.inr (rwF rw)))))), (a_laws_lengths, .inl (cI, 4, .inl laws_lengths)), (a_laws_letters, .inl (cI, 6, .inl o_laws_letters)), (a_laws_stack, .inl (cI, 241, .inl o_laws_stack)), ((rw 0), .inl (cI, 241, .inl laws_c0)), ((rw 1), .inl (cI, 241, .inl laws_c1)), ((rw 2), .inl (cI, 241, .inl laws_c2)), ((rw 3), .inl (cI, 241, .inl laws_c3))]) args s 0 0 A) (F0 m 99 ls []) := by
  obtain ⟨hx, hb, hml, hown, hts, hr, hlk⟩ := id C
  obtain ⟨hK, hX, hA⟩ := id K
  unfold b_X2_riseBy_99 at hf
  refine lv_bipush (v := (-9 : Int32)) hx hb dX2_riseBy_99 (by decide) ?_
  refine lv_bipush (v := (9 : Int32)) hx hb dX2_riseBy_101 (by decide) ?_
  refine lv_iload hx hb dX2_riseBy_103 (lv_at hl 0 rfl) ?_
  refine va_mmin hx hb (hml.trans hl.1.symm) hown (hts _ lk_X2_riseBy_4) (hts _ lk_X2_riseBy_5) (hts _ lk_X2_riseBy_6) (hts _ lk_X2_riseBy_7) (Nat.le_of_ble_eq_true rfl) (Nat.le_of_ble_eq_true rfl) (Nat.zero_le _) (Nat.zero_le _) dX2_riseBy_105 ?_
  obtain ⟨n_1, e_n_1, hf⟩ := bnd_some hf
  refine lv_nmi e_n_1 ?_
  refine va_mmax hx hb (hml.trans hl.1.symm) hown (hts _ lk_X2_riseBy_8) (hts _ lk_X2_riseBy_9) (hts _ lk_X2_riseBy_6) (hts _ lk_X2_riseBy_10) (Nat.le_of_ble_eq_true rfl) (Nat.le_of_ble_eq_true rfl) (Nat.zero_le _) (Nat.zero_le _) dX2_riseBy_108 ?_
  obtain ⟨n_2, e_n_2, hf⟩ := bnd_some hf
  refine lv_nmi e_n_2 ?_
  cases hf
  exact retI C hw dX2_riseBy_111 rfl
set_option maxHeartbeats 4000000 in
set_option maxRecDepth 100000 in
theorem q_X2_riseBy_0 {p : Program} {l : Launch} {e : Env} {s : State} {m : MethodId} {args : Array Value} {below : List Frame} {meth : Method} {c : Code} {sx : List sx_T} {D : va_G} {cI cZ cO : ClassId} {A : Nat → Prop} (C : Cx p s m args meth c RX2 wsX2_riseBy cX2_riseBy 8 (some .int)) (K : Kx sx D (tyL cI cZ cO) A s) (a_laws : Nat) (a_laws_codes : Nat) (a_laws_lengths : Nat) (a_laws_letters : Nat) (a_laws_stack : Nat) (rw : Nat → Nat) (laws_size : Int32) (laws_holds : Int32) (laws_lengths : Nat → Int32) (laws_c0 : Nat → Int32) (laws_c1 : Nat → Int32) (laws_c2 : Nat → Int32) (laws_c3 : Nat → Int32) (r0 : Int32) (o_laws_letters : Nat → Int32) (o_laws_stack : Nat → Int32)    (laws_letters : Nat → Int32) (laws_stack : Nat → Int32) (v1 : Int32) (v2 : Int32) (v3 : Int32) (v4 : Int32) (v5 : Int32) (v6 : Int32) {H : Heap} {locs : List Loc} {ls : Array Slot} (hf : b_X2_riseBy_0 laws_holds laws_lengths laws_c0 laws_c1 laws_c2 laws_c3  laws_letters laws_stack v1 v2 v3 v4 v5 v6 = some (r0, o_laws_letters, o_laws_stack)) (hw : Wo D A s [(oX2 a_laws (.int laws_size) (.int laws_holds) (.ref a_laws_codes) (.ref a_laws_lengths) (.ref a_laws_letters) (.ref a_laws_stack)), (a_laws_codes, .inl (cO, 4, .inr (.inr (.inr (.inr (rwF rw)))))), (a_laws_lengths, .inl (cI, 4, .inl laws_lengths)), (a_laws_letters, .inl (cI, 6, .inl laws_letters)), (a_laws_stack, .inl (cI, 241, .inl laws_stack)), ((rw 0), .inl (cI, 241, .inl laws_c0)), ((rw 1), .inl (cI, 241, .inl laws_c1)), ((rw 2), .inl (cI, 241, .inl laws_c2)), ((rw 3), .inl (cI, 241, .inl laws_c3))] H locs) (hl : lv_has ls 8 [(0, .ref a_laws), (1, .int v1), (2, .int v2), (3, .int v3), (4, .int v4), (5, .int v5), (6, .int v6)]) : W p l e rm_X2_riseBy s m args below meth c H locs 0 0 (MQ below (QcI D A r0 [(oX2 a_laws (.int laws_size) (.int laws_holds) (.ref a_laws_codes) (.ref a_laws_lengths) (.ref a_laws_letters) (.ref a_laws_stack)), (a_laws_codes, .inl (cO, 4, .inr (.inr (.inr (.inr (rwF rw)))))), (a_laws_lengths, .inl (cI, 4, .inl laws_lengths)), (a_laws_letters, .inl (cI, 6, .inl o_laws_letters)), (a_laws_stack, .inl (cI, 241, .inl o_laws_stack)), ((rw 0), .inl (cI, 241, .inl laws_c0)), ((rw 1), .inl (cI, 241, .inl laws_c1)), ((rw 2), .inl (cI, 241, .inl laws_c2)), ((rw 3), .inl (cI, 241, .inl laws_c3))]) args s 0 0 A) (F0 m 0 ls []) := by
  obtain ⟨hx, hb, hml, hown, hts, hr, hlk⟩ := id C
  obtain ⟨hK, hX, hA⟩ := id K
  unfold b_X2_riseBy_0 at hf
  refine lv_aload_n hx hb dX2_riseBy_0 rfl (lv_at hl 0 rfl) ?_
  refine va_get (ci := 2) (v := .int laws_holds) (C := RX2) (T := TX2) (N := 6) hx hb hts in_X2_riseBy_X2 hown hK hw.1 0 rfl rfl 1 (by decide) (hts _ lk_X2_riseBy_0) (fun _ h9 => h9) rfl dX2_riseBy_1 ?_
  refine lv_iconst (v := (-1 : Int32)) hx hb dX2_riseBy_4 (by decide) ?_
  refine lv_icmp_ne (tgt := 30) hx hb dX2_riseBy_5 (by decide) (fun hc => ?_) (fun hc => ?_)
  · have hf := (if_neg hc).symm.trans hf
    refine lv_aload_n hx hb dX2_riseBy_30 rfl (lv_at hl 0 rfl) ?_
    refine va_get (ci := 2) (v := .ref a_laws_letters) (C := RX2) (T := TX2) (N := 6) hx hb hts in_X2_riseBy_X2 hown hK hw.1 0 rfl rfl 4 (by decide) (hts _ lk_X2_riseBy_1) (fun _ h9 => h9) rfl dX2_riseBy_31 ?_
    refine lv_iconst (v := (0 : Int32)) hx hb dX2_riseBy_34 (by decide) ?_
    refine lv_iload_n hx hb dX2_riseBy_35 rfl (lv_at hl 1 rfl) ?_
    obtain ⟨hc_1, hf⟩ := gd_some hf
    obtain ⟨laws_letters_2, e_laws_letters_2, hf⟩ := bnd_some hf
    refine va_iast hx hb hK hw.1 hw.2.1 hw.2.2 3 0 rfl rfl (inB_in hc_1) dX2_riseBy_36 (fun H locs hP hD hS => ?_)
    have hw : Wo D A s [(oX2 a_laws (.int laws_size) (.int laws_holds) (.ref a_laws_codes) (.ref a_laws_lengths) (.ref a_laws_letters) (.ref a_laws_stack)), (a_laws_codes, .inl (cO, 4, .inr (.inr (.inr (.inr (rwF rw)))))), (a_laws_lengths, .inl (cI, 4, .inl laws_lengths)), (a_laws_letters, .inl (cI, 6, .inl laws_letters_2)), (a_laws_stack, .inl (cI, 241, .inl laws_stack)), ((rw 0), .inl (cI, 241, .inl laws_c0)), ((rw 1), .inl (cI, 241, .inl laws_c1)), ((rw 2), .inl (cI, 241, .inl laws_c2)), ((rw 3), .inl (cI, 241, .inl laws_c3))] H locs := by rw [e_laws_letters_2]; exact ⟨hP, hD, hS⟩
    refine lv_aload_n hx hb dX2_riseBy_37 rfl (lv_at hl 0 rfl) ?_
    refine va_get (ci := 2) (v := .ref a_laws_letters) (C := RX2) (T := TX2) (N := 6) hx hb hts in_X2_riseBy_X2 hown hK hw.1 0 rfl rfl 4 (by decide) (hts _ lk_X2_riseBy_1) (fun _ h9 => h9) rfl dX2_riseBy_38 ?_
    refine lv_iconst (v := (1 : Int32)) hx hb dX2_riseBy_41 (by decide) ?_
    refine lv_iload_n hx hb dX2_riseBy_42 rfl (lv_at hl 2 rfl) ?_
    obtain ⟨hc_3, hf⟩ := gd_some hf
    obtain ⟨laws_letters_4, e_laws_letters_4, hf⟩ := bnd_some hf
    refine va_iast hx hb hK hw.1 hw.2.1 hw.2.2 3 0 rfl rfl (inB_in hc_3) dX2_riseBy_43 (fun H locs hP hD hS => ?_)
    have hw : Wo D A s [(oX2 a_laws (.int laws_size) (.int laws_holds) (.ref a_laws_codes) (.ref a_laws_lengths) (.ref a_laws_letters) (.ref a_laws_stack)), (a_laws_codes, .inl (cO, 4, .inr (.inr (.inr (.inr (rwF rw)))))), (a_laws_lengths, .inl (cI, 4, .inl laws_lengths)), (a_laws_letters, .inl (cI, 6, .inl laws_letters_4)), (a_laws_stack, .inl (cI, 241, .inl laws_stack)), ((rw 0), .inl (cI, 241, .inl laws_c0)), ((rw 1), .inl (cI, 241, .inl laws_c1)), ((rw 2), .inl (cI, 241, .inl laws_c2)), ((rw 3), .inl (cI, 241, .inl laws_c3))] H locs := by rw [e_laws_letters_4]; exact ⟨hP, hD, hS⟩
    refine lv_aload_n hx hb dX2_riseBy_44 rfl (lv_at hl 0 rfl) ?_
    refine va_get (ci := 2) (v := .ref a_laws_letters) (C := RX2) (T := TX2) (N := 6) hx hb hts in_X2_riseBy_X2 hown hK hw.1 0 rfl rfl 4 (by decide) (hts _ lk_X2_riseBy_1) (fun _ h9 => h9) rfl dX2_riseBy_45 ?_
    refine lv_iconst (v := (2 : Int32)) hx hb dX2_riseBy_48 (by decide) ?_
    refine lv_iload_n hx hb dX2_riseBy_49 rfl (lv_at hl 3 rfl) ?_
    obtain ⟨hc_5, hf⟩ := gd_some hf
    obtain ⟨laws_letters_6, e_laws_letters_6, hf⟩ := bnd_some hf
    refine va_iast hx hb hK hw.1 hw.2.1 hw.2.2 3 0 rfl rfl (inB_in hc_5) dX2_riseBy_50 (fun H locs hP hD hS => ?_)
    have hw : Wo D A s [(oX2 a_laws (.int laws_size) (.int laws_holds) (.ref a_laws_codes) (.ref a_laws_lengths) (.ref a_laws_letters) (.ref a_laws_stack)), (a_laws_codes, .inl (cO, 4, .inr (.inr (.inr (.inr (rwF rw)))))), (a_laws_lengths, .inl (cI, 4, .inl laws_lengths)), (a_laws_letters, .inl (cI, 6, .inl laws_letters_6)), (a_laws_stack, .inl (cI, 241, .inl laws_stack)), ((rw 0), .inl (cI, 241, .inl laws_c0)), ((rw 1), .inl (cI, 241, .inl laws_c1)), ((rw 2), .inl (cI, 241, .inl laws_c2)), ((rw 3), .inl (cI, 241, .inl laws_c3))] H locs := by rw [e_laws_letters_6]; exact ⟨hP, hD, hS⟩
    refine lv_aload_n hx hb dX2_riseBy_51 rfl (lv_at hl 0 rfl) ?_
    refine va_get (ci := 2) (v := .ref a_laws_letters) (C := RX2) (T := TX2) (N := 6) hx hb hts in_X2_riseBy_X2 hown hK hw.1 0 rfl rfl 4 (by decide) (hts _ lk_X2_riseBy_1) (fun _ h9 => h9) rfl dX2_riseBy_52 ?_
    refine lv_iconst (v := (3 : Int32)) hx hb dX2_riseBy_55 (by decide) ?_
    refine lv_iload hx hb dX2_riseBy_56 (lv_at hl 4 rfl) ?_
    obtain ⟨hc_7, hf⟩ := gd_some hf
    obtain ⟨laws_letters_8, e_laws_letters_8, hf⟩ := bnd_some hf
    refine va_iast hx hb hK hw.1 hw.2.1 hw.2.2 3 0 rfl rfl (inB_in hc_7) dX2_riseBy_58 (fun H locs hP hD hS => ?_)
    have hw : Wo D A s [(oX2 a_laws (.int laws_size) (.int laws_holds) (.ref a_laws_codes) (.ref a_laws_lengths) (.ref a_laws_letters) (.ref a_laws_stack)), (a_laws_codes, .inl (cO, 4, .inr (.inr (.inr (.inr (rwF rw)))))), (a_laws_lengths, .inl (cI, 4, .inl laws_lengths)), (a_laws_letters, .inl (cI, 6, .inl laws_letters_8)), (a_laws_stack, .inl (cI, 241, .inl laws_stack)), ((rw 0), .inl (cI, 241, .inl laws_c0)), ((rw 1), .inl (cI, 241, .inl laws_c1)), ((rw 2), .inl (cI, 241, .inl laws_c2)), ((rw 3), .inl (cI, 241, .inl laws_c3))] H locs := by rw [e_laws_letters_8]; exact ⟨hP, hD, hS⟩
    refine lv_aload_n hx hb dX2_riseBy_59 rfl (lv_at hl 0 rfl) ?_
    refine va_get (ci := 2) (v := .ref a_laws_letters) (C := RX2) (T := TX2) (N := 6) hx hb hts in_X2_riseBy_X2 hown hK hw.1 0 rfl rfl 4 (by decide) (hts _ lk_X2_riseBy_1) (fun _ h9 => h9) rfl dX2_riseBy_60 ?_
    refine lv_iconst (v := (4 : Int32)) hx hb dX2_riseBy_63 (by decide) ?_
    refine lv_iload hx hb dX2_riseBy_64 (lv_at hl 5 rfl) ?_
    obtain ⟨hc_9, hf⟩ := gd_some hf
    obtain ⟨laws_letters_10, e_laws_letters_10, hf⟩ := bnd_some hf
    refine va_iast hx hb hK hw.1 hw.2.1 hw.2.2 3 0 rfl rfl (inB_in hc_9) dX2_riseBy_66 (fun H locs hP hD hS => ?_)
    have hw : Wo D A s [(oX2 a_laws (.int laws_size) (.int laws_holds) (.ref a_laws_codes) (.ref a_laws_lengths) (.ref a_laws_letters) (.ref a_laws_stack)), (a_laws_codes, .inl (cO, 4, .inr (.inr (.inr (.inr (rwF rw)))))), (a_laws_lengths, .inl (cI, 4, .inl laws_lengths)), (a_laws_letters, .inl (cI, 6, .inl laws_letters_10)), (a_laws_stack, .inl (cI, 241, .inl laws_stack)), ((rw 0), .inl (cI, 241, .inl laws_c0)), ((rw 1), .inl (cI, 241, .inl laws_c1)), ((rw 2), .inl (cI, 241, .inl laws_c2)), ((rw 3), .inl (cI, 241, .inl laws_c3))] H locs := by rw [e_laws_letters_10]; exact ⟨hP, hD, hS⟩
    refine lv_aload_n hx hb dX2_riseBy_67 rfl (lv_at hl 0 rfl) ?_
    refine va_get (ci := 2) (v := .ref a_laws_letters) (C := RX2) (T := TX2) (N := 6) hx hb hts in_X2_riseBy_X2 hown hK hw.1 0 rfl rfl 4 (by decide) (hts _ lk_X2_riseBy_1) (fun _ h9 => h9) rfl dX2_riseBy_68 ?_
    refine lv_iconst (v := (5 : Int32)) hx hb dX2_riseBy_71 (by decide) ?_
    refine lv_iload hx hb dX2_riseBy_72 (lv_at hl 6 rfl) ?_
    obtain ⟨hc_11, hf⟩ := gd_some hf
    obtain ⟨laws_letters_12, e_laws_letters_12, hf⟩ := bnd_some hf
    refine va_iast hx hb hK hw.1 hw.2.1 hw.2.2 3 0 rfl rfl (inB_in hc_11) dX2_riseBy_74 (fun H locs hP hD hS => ?_)
    have hw : Wo D A s [(oX2 a_laws (.int laws_size) (.int laws_holds) (.ref a_laws_codes) (.ref a_laws_lengths) (.ref a_laws_letters) (.ref a_laws_stack)), (a_laws_codes, .inl (cO, 4, .inr (.inr (.inr (.inr (rwF rw)))))), (a_laws_lengths, .inl (cI, 4, .inl laws_lengths)), (a_laws_letters, .inl (cI, 6, .inl laws_letters_12)), (a_laws_stack, .inl (cI, 241, .inl laws_stack)), ((rw 0), .inl (cI, 241, .inl laws_c0)), ((rw 1), .inl (cI, 241, .inl laws_c1)), ((rw 2), .inl (cI, 241, .inl laws_c2)), ((rw 3), .inl (cI, 241, .inl laws_c3))] H locs := by rw [e_laws_letters_12]; exact ⟨hP, hD, hS⟩
    refine lv_aload_n hx hb dX2_riseBy_75 rfl (lv_at hl 0 rfl) ?_
    refine lv_aload_n hx hb dX2_riseBy_76 rfl (lv_at hl 0 rfl) ?_
    refine va_get (ci := 2) (v := .ref a_laws_codes) (C := RX2) (T := TX2) (N := 6) hx hb hts in_X2_riseBy_X2 hown hK hw.1 0 rfl rfl 2 (by decide) (hts _ lk_X2_riseBy_2) (fun _ h9 => h9) rfl dX2_riseBy_77 ?_
    refine lv_aload_n hx hb dX2_riseBy_80 rfl (lv_at hl 0 rfl) ?_
    refine va_get (ci := 2) (v := .int laws_holds) (C := RX2) (T := TX2) (N := 6) hx hb hts in_X2_riseBy_X2 hown hK hw.1 0 rfl rfl 1 (by decide) (hts _ lk_X2_riseBy_0) (fun _ h9 => h9) rfl dX2_riseBy_81 ?_
    obtain ⟨hc_13, hf⟩ := gd_some hf
    refine ald4 hx hb hK hw.1 1 rfl hc_13 dX2_riseBy_84 (fun h0 => ?_) (fun h0 h1 => ?_) (fun h0 h1 h2 => ?_) (fun h0 h1 h2 => ?_)
    · have hf := (if_pos h0).symm.trans hf
      refine lv_aload_n hx hb dX2_riseBy_85 rfl (lv_at hl 0 rfl) ?_
      refine va_get (ci := 2) (v := .ref a_laws_lengths) (C := RX2) (T := TX2) (N := 6) hx hb hts in_X2_riseBy_X2 hown hK hw.1 0 rfl rfl 3 (by decide) (hts _ lk_X2_riseBy_3) (fun _ h9 => h9) rfl dX2_riseBy_86 ?_
      refine lv_aload_n hx hb dX2_riseBy_89 rfl (lv_at hl 0 rfl) ?_
      refine va_get (ci := 2) (v := .int laws_holds) (C := RX2) (T := TX2) (N := 6) hx hb hts in_X2_riseBy_X2 hown hK hw.1 0 rfl rfl 1 (by decide) (hts _ lk_X2_riseBy_0) (fun _ h9 => h9) rfl dX2_riseBy_90 ?_
      obtain ⟨hc_14, hf⟩ := gd_some hf
      refine va_iald hx hb hK hw.1 2 0 rfl rfl (inB_in hc_14) dX2_riseBy_93 ?_
      obtain ⟨r_15, laws_stack_16, hg_17, hf⟩ := ob2_some hf
      refine cl_ViA (As := [.ref (rw 0), .int (laws_lengths laws_holds.toNatClampNeg)]) (rest := []) C K hw (k_X2_worth a_laws a_laws_codes a_laws_lengths a_laws_letters a_laws_stack (rw 0) 241 laws_size laws_holds laws_letters_12 laws_c0 r_15 laws_stack_16 laws_stack (laws_lengths laws_holds.toNatClampNeg) hg_17) [0, 3, 4, 5] rfl (by decide) rfl rfl (ci := 2) (j := 0) rfl rfl (cwV 2 hts gX2_riseBy_X2_worth rfl rfl rfl (by decide +kernel) ⟨Nat.le_of_ble_eq_true rfl, Nat.le_of_ble_eq_true rfl⟩) rfl hl rfl (Nat.le_of_ble_eq_true rfl) dX2_riseBy_94 ⟨Nat.zero_le _, Nat.zero_le _⟩ (fun H locs hw => ?_)
      have hw : Wo D A s [(oX2 a_laws (.int laws_size) (.int laws_holds) (.ref a_laws_codes) (.ref a_laws_lengths) (.ref a_laws_letters) (.ref a_laws_stack)), (a_laws_codes, .inl (cO, 4, .inr (.inr (.inr (.inr (rwF rw)))))), (a_laws_lengths, .inl (cI, 4, .inl laws_lengths)), (a_laws_letters, .inl (cI, 6, .inl laws_letters_12)), (a_laws_stack, .inl (cI, 241, .inl laws_stack_16)), ((rw 0), .inl (cI, 241, .inl laws_c0)), ((rw 1), .inl (cI, 241, .inl laws_c1)), ((rw 2), .inl (cI, 241, .inl laws_c2)), ((rw 3), .inl (cI, 241, .inl laws_c3))] H locs := hw
      refine lv_istore (lv' := [(7, .int r_15), (0, .ref a_laws), (1, .int v1), (2, .int v2), (3, .int v3), (4, .int v4), (5, .int v5), (6, .int v6)]) hx hb dX2_riseBy_97 hl (by decide) rfl (fun ls hl => ?_)
      exact q_X2_riseBy_99 C K a_laws a_laws_codes a_laws_lengths a_laws_letters a_laws_stack rw laws_size laws_holds laws_lengths laws_c0 laws_c1 laws_c2 laws_c3 r0 o_laws_letters o_laws_stack  laws_letters_12 laws_stack_16 r_15 hf hw (lv_sub hl [0] rfl)
    · have hf := (if_neg h0).symm.trans hf
      have hf := (if_pos h1).symm.trans hf
      refine lv_aload_n hx hb dX2_riseBy_85 rfl (lv_at hl 0 rfl) ?_
      refine va_get (ci := 2) (v := .ref a_laws_lengths) (C := RX2) (T := TX2) (N := 6) hx hb hts in_X2_riseBy_X2 hown hK hw.1 0 rfl rfl 3 (by decide) (hts _ lk_X2_riseBy_3) (fun _ h9 => h9) rfl dX2_riseBy_86 ?_
      refine lv_aload_n hx hb dX2_riseBy_89 rfl (lv_at hl 0 rfl) ?_
      refine va_get (ci := 2) (v := .int laws_holds) (C := RX2) (T := TX2) (N := 6) hx hb hts in_X2_riseBy_X2 hown hK hw.1 0 rfl rfl 1 (by decide) (hts _ lk_X2_riseBy_0) (fun _ h9 => h9) rfl dX2_riseBy_90 ?_
      obtain ⟨hc_18, hf⟩ := gd_some hf
      refine va_iald hx hb hK hw.1 2 0 rfl rfl (inB_in hc_18) dX2_riseBy_93 ?_
      obtain ⟨r_19, laws_stack_20, hg_21, hf⟩ := ob2_some hf
      refine cl_ViA (As := [.ref (rw 1), .int (laws_lengths laws_holds.toNatClampNeg)]) (rest := []) C K hw (k_X2_worth a_laws a_laws_codes a_laws_lengths a_laws_letters a_laws_stack (rw 1) 241 laws_size laws_holds laws_letters_12 laws_c1 r_19 laws_stack_20 laws_stack (laws_lengths laws_holds.toNatClampNeg) hg_21) [0, 3, 4, 6] rfl (by decide) rfl rfl (ci := 2) (j := 0) rfl rfl (cwV 2 hts gX2_riseBy_X2_worth rfl rfl rfl (by decide +kernel) ⟨Nat.le_of_ble_eq_true rfl, Nat.le_of_ble_eq_true rfl⟩) rfl hl rfl (Nat.le_of_ble_eq_true rfl) dX2_riseBy_94 ⟨Nat.zero_le _, Nat.zero_le _⟩ (fun H locs hw => ?_)
      have hw : Wo D A s [(oX2 a_laws (.int laws_size) (.int laws_holds) (.ref a_laws_codes) (.ref a_laws_lengths) (.ref a_laws_letters) (.ref a_laws_stack)), (a_laws_codes, .inl (cO, 4, .inr (.inr (.inr (.inr (rwF rw)))))), (a_laws_lengths, .inl (cI, 4, .inl laws_lengths)), (a_laws_letters, .inl (cI, 6, .inl laws_letters_12)), (a_laws_stack, .inl (cI, 241, .inl laws_stack_20)), ((rw 0), .inl (cI, 241, .inl laws_c0)), ((rw 1), .inl (cI, 241, .inl laws_c1)), ((rw 2), .inl (cI, 241, .inl laws_c2)), ((rw 3), .inl (cI, 241, .inl laws_c3))] H locs := hw
      refine lv_istore (lv' := [(7, .int r_19), (0, .ref a_laws), (1, .int v1), (2, .int v2), (3, .int v3), (4, .int v4), (5, .int v5), (6, .int v6)]) hx hb dX2_riseBy_97 hl (by decide) rfl (fun ls hl => ?_)
      exact q_X2_riseBy_99 C K a_laws a_laws_codes a_laws_lengths a_laws_letters a_laws_stack rw laws_size laws_holds laws_lengths laws_c0 laws_c1 laws_c2 laws_c3 r0 o_laws_letters o_laws_stack  laws_letters_12 laws_stack_20 r_19 hf hw (lv_sub hl [0] rfl)
    · have hf := (if_neg h0).symm.trans hf
      have hf := (if_neg h1).symm.trans hf
      have hf := (if_pos h2).symm.trans hf
      refine lv_aload_n hx hb dX2_riseBy_85 rfl (lv_at hl 0 rfl) ?_
      refine va_get (ci := 2) (v := .ref a_laws_lengths) (C := RX2) (T := TX2) (N := 6) hx hb hts in_X2_riseBy_X2 hown hK hw.1 0 rfl rfl 3 (by decide) (hts _ lk_X2_riseBy_3) (fun _ h9 => h9) rfl dX2_riseBy_86 ?_
      refine lv_aload_n hx hb dX2_riseBy_89 rfl (lv_at hl 0 rfl) ?_
      refine va_get (ci := 2) (v := .int laws_holds) (C := RX2) (T := TX2) (N := 6) hx hb hts in_X2_riseBy_X2 hown hK hw.1 0 rfl rfl 1 (by decide) (hts _ lk_X2_riseBy_0) (fun _ h9 => h9) rfl dX2_riseBy_90 ?_
      obtain ⟨hc_22, hf⟩ := gd_some hf
      refine va_iald hx hb hK hw.1 2 0 rfl rfl (inB_in hc_22) dX2_riseBy_93 ?_
      obtain ⟨r_23, laws_stack_24, hg_25, hf⟩ := ob2_some hf
      refine cl_ViA (As := [.ref (rw 2), .int (laws_lengths laws_holds.toNatClampNeg)]) (rest := []) C K hw (k_X2_worth a_laws a_laws_codes a_laws_lengths a_laws_letters a_laws_stack (rw 2) 241 laws_size laws_holds laws_letters_12 laws_c2 r_23 laws_stack_24 laws_stack (laws_lengths laws_holds.toNatClampNeg) hg_25) [0, 3, 4, 7] rfl (by decide) rfl rfl (ci := 2) (j := 0) rfl rfl (cwV 2 hts gX2_riseBy_X2_worth rfl rfl rfl (by decide +kernel) ⟨Nat.le_of_ble_eq_true rfl, Nat.le_of_ble_eq_true rfl⟩) rfl hl rfl (Nat.le_of_ble_eq_true rfl) dX2_riseBy_94 ⟨Nat.zero_le _, Nat.zero_le _⟩ (fun H locs hw => ?_)
      have hw : Wo D A s [(oX2 a_laws (.int laws_size) (.int laws_holds) (.ref a_laws_codes) (.ref a_laws_lengths) (.ref a_laws_letters) (.ref a_laws_stack)), (a_laws_codes, .inl (cO, 4, .inr (.inr (.inr (.inr (rwF rw)))))), (a_laws_lengths, .inl (cI, 4, .inl laws_lengths)), (a_laws_letters, .inl (cI, 6, .inl laws_letters_12)), (a_laws_stack, .inl (cI, 241, .inl laws_stack_24)), ((rw 0), .inl (cI, 241, .inl laws_c0)), ((rw 1), .inl (cI, 241, .inl laws_c1)), ((rw 2), .inl (cI, 241, .inl laws_c2)), ((rw 3), .inl (cI, 241, .inl laws_c3))] H locs := hw
      refine lv_istore (lv' := [(7, .int r_23), (0, .ref a_laws), (1, .int v1), (2, .int v2), (3, .int v3), (4, .int v4), (5, .int v5), (6, .int v6)]) hx hb dX2_riseBy_97 hl (by decide) rfl (fun ls hl => ?_)
      exact q_X2_riseBy_99 C K a_laws a_laws_codes a_laws_lengths a_laws_letters a_laws_stack rw laws_size laws_holds laws_lengths laws_c0 laws_c1 laws_c2 laws_c3 r0 o_laws_letters o_laws_stack  laws_letters_12 laws_stack_24 r_23 hf hw (lv_sub hl [0] rfl)
    · have hf := (if_neg h0).symm.trans hf
      have hf := (if_neg h1).symm.trans hf
      have hf := (if_neg h2).symm.trans hf
      refine lv_aload_n hx hb dX2_riseBy_85 rfl (lv_at hl 0 rfl) ?_
      refine va_get (ci := 2) (v := .ref a_laws_lengths) (C := RX2) (T := TX2) (N := 6) hx hb hts in_X2_riseBy_X2 hown hK hw.1 0 rfl rfl 3 (by decide) (hts _ lk_X2_riseBy_3) (fun _ h9 => h9) rfl dX2_riseBy_86 ?_
      refine lv_aload_n hx hb dX2_riseBy_89 rfl (lv_at hl 0 rfl) ?_
      refine va_get (ci := 2) (v := .int laws_holds) (C := RX2) (T := TX2) (N := 6) hx hb hts in_X2_riseBy_X2 hown hK hw.1 0 rfl rfl 1 (by decide) (hts _ lk_X2_riseBy_0) (fun _ h9 => h9) rfl dX2_riseBy_90 ?_
      obtain ⟨hc_26, hf⟩ := gd_some hf
      refine va_iald hx hb hK hw.1 2 0 rfl rfl (inB_in hc_26) dX2_riseBy_93 ?_
      obtain ⟨r_27, laws_stack_28, hg_29, hf⟩ := ob2_some hf
      refine cl_ViA (As := [.ref (rw 3), .int (laws_lengths laws_holds.toNatClampNeg)]) (rest := []) C K hw (k_X2_worth a_laws a_laws_codes a_laws_lengths a_laws_letters a_laws_stack (rw 3) 241 laws_size laws_holds laws_letters_12 laws_c3 r_27 laws_stack_28 laws_stack (laws_lengths laws_holds.toNatClampNeg) hg_29) [0, 3, 4, 8] rfl (by decide) rfl rfl (ci := 2) (j := 0) rfl rfl (cwV 2 hts gX2_riseBy_X2_worth rfl rfl rfl (by decide +kernel) ⟨Nat.le_of_ble_eq_true rfl, Nat.le_of_ble_eq_true rfl⟩) rfl hl rfl (Nat.le_of_ble_eq_true rfl) dX2_riseBy_94 ⟨Nat.zero_le _, Nat.zero_le _⟩ (fun H locs hw => ?_)
      have hw : Wo D A s [(oX2 a_laws (.int laws_size) (.int laws_holds) (.ref a_laws_codes) (.ref a_laws_lengths) (.ref a_laws_letters) (.ref a_laws_stack)), (a_laws_codes, .inl (cO, 4, .inr (.inr (.inr (.inr (rwF rw)))))), (a_laws_lengths, .inl (cI, 4, .inl laws_lengths)), (a_laws_letters, .inl (cI, 6, .inl laws_letters_12)), (a_laws_stack, .inl (cI, 241, .inl laws_stack_28)), ((rw 0), .inl (cI, 241, .inl laws_c0)), ((rw 1), .inl (cI, 241, .inl laws_c1)), ((rw 2), .inl (cI, 241, .inl laws_c2)), ((rw 3), .inl (cI, 241, .inl laws_c3))] H locs := hw
      refine lv_istore (lv' := [(7, .int r_27), (0, .ref a_laws), (1, .int v1), (2, .int v2), (3, .int v3), (4, .int v4), (5, .int v5), (6, .int v6)]) hx hb dX2_riseBy_97 hl (by decide) rfl (fun ls hl => ?_)
      exact q_X2_riseBy_99 C K a_laws a_laws_codes a_laws_lengths a_laws_letters a_laws_stack rw laws_size laws_holds laws_lengths laws_c0 laws_c1 laws_c2 laws_c3 r0 o_laws_letters o_laws_stack  laws_letters_12 laws_stack_28 r_27 hf hw (lv_sub hl [0] rfl)
  · have hf := (if_pos hc).symm.trans hf
    refine lv_iload_n hx hb dX2_riseBy_8 rfl (lv_at hl 1 rfl) ?_
    refine lv_iconst (v := (2 : Int32)) hx hb dX2_riseBy_9 (by decide) ?_
    refine lv_idiv hx hb dX2_riseBy_10 (by decide) ?_
    refine lv_iconst (v := (2 : Int32)) hx hb dX2_riseBy_11 (by decide) ?_
    refine lv_iload hx hb dX2_riseBy_12 (lv_at hl 4 rfl) ?_
    refine lv_imul hx hb dX2_riseBy_14 ?_
    refine lv_iadd hx hb dX2_riseBy_15 ?_
    refine lv_iload hx hb dX2_riseBy_16 (lv_at hl 5 rfl) ?_
    refine lv_iconst (v := (3 : Int32)) hx hb dX2_riseBy_18 (by decide) ?_
    refine lv_idiv hx hb dX2_riseBy_19 (by decide) ?_
    refine lv_isub hx hb dX2_riseBy_20 ?_
    obtain ⟨n_30, e_n_30, hf⟩ := bnd_some hf
    refine lv_nmi e_n_30 ?_
    refine lv_iload_n hx hb dX2_riseBy_21 rfl (lv_at hl 2 rfl) ?_
    refine lv_iconst (v := (4 : Int32)) hx hb dX2_riseBy_22 (by decide) ?_
    refine lv_idiv hx hb dX2_riseBy_23 (by decide) ?_
    refine lv_isub hx hb dX2_riseBy_24 ?_
    obtain ⟨v7_31, e_v7_31, hf⟩ := bnd_some hf
    refine lv_nmi e_v7_31 ?_
    refine lv_istore (lv' := [(7, .int v7_31), (0, .ref a_laws), (1, .int v1), (2, .int v2), (3, .int v3), (4, .int v4), (5, .int v5), (6, .int v6)]) hx hb dX2_riseBy_25 hl (by decide) rfl (fun ls hl => ?_)
    refine lv_goto (tgt := 99) hx hb dX2_riseBy_27 (by decide) ?_
    exact q_X2_riseBy_99 C K a_laws a_laws_codes a_laws_lengths a_laws_letters a_laws_stack rw laws_size laws_holds laws_lengths laws_c0 laws_c1 laws_c2 laws_c3 r0 o_laws_letters o_laws_stack  laws_letters laws_stack v7_31 hf hw (lv_sub hl [0] rfl)
set_option maxHeartbeats 4000000 in
set_option maxRecDepth 100000 in
theorem k_X2_riseBy {l : Launch} {sx : List sx_T} {D : va_G} {cI cZ cO : ClassId} (a_laws : Nat) (a_laws_codes : Nat) (a_laws_lengths : Nat) (a_laws_letters : Nat) (a_laws_stack : Nat) (rw : Nat → Nat) (laws_size : Int32) (laws_holds : Int32) (laws_lengths : Nat → Int32) (laws_c0 : Nat → Int32) (laws_c1 : Nat → Int32) (laws_c2 : Nat → Int32) (laws_c3 : Nat → Int32) (r0 : Int32) (o_laws_letters : Nat → Int32) (o_laws_stack : Nat → Int32) (laws_letters : Nat → Int32) (laws_stack : Nat → Int32) (p1 : Int32) (p2 : Int32) (p3 : Int32) (p4 : Int32) (p5 : Int32) (p6 : Int32) (hF : f_X2_riseBy laws_holds laws_lengths laws_c0 laws_c1 laws_c2 laws_c3 laws_letters laws_stack p1 p2 p3 p4 p5 p6 = some (r0, o_laws_letters, o_laws_stack)) : CtI l yX2_riseBy wsX2_riseBy rm_X2_riseBy sx D (tyL cI cZ cO) [.ref a_laws, .int p1, .int p2, .int p3, .int p4, .int p5, .int p6] [(oX2 a_laws (.int laws_size) (.int laws_holds) (.ref a_laws_codes) (.ref a_laws_lengths) (.ref a_laws_letters) (.ref a_laws_stack)), (a_laws_codes, .inl (cO, 4, .inr (.inr (.inr (.inr (rwF rw)))))), (a_laws_lengths, .inl (cI, 4, .inl laws_lengths)), (a_laws_letters, .inl (cI, 6, .inl laws_letters)), (a_laws_stack, .inl (cI, 241, .inl laws_stack)), ((rw 0), .inl (cI, 241, .inl laws_c0)), ((rw 1), .inl (cI, 241, .inl laws_c1)), ((rw 2), .inl (cI, 241, .inl laws_c2)), ((rw 3), .inl (cI, 241, .inl laws_c3))] r0 [(oX2 a_laws (.int laws_size) (.int laws_holds) (.ref a_laws_codes) (.ref a_laws_lengths) (.ref a_laws_letters) (.ref a_laws_stack)), (a_laws_codes, .inl (cO, 4, .inr (.inr (.inr (.inr (rwF rw)))))), (a_laws_lengths, .inl (cI, 4, .inl laws_lengths)), (a_laws_letters, .inl (cI, 6, .inl o_laws_letters)), (a_laws_stack, .inl (cI, 241, .inl o_laws_stack)), ((rw 0), .inl (cI, 241, .inl laws_c0)), ((rw 1), .inl (cI, 241, .inl laws_c1)), ((rw 2), .inl (cI, 241, .inl laws_c2)), ((rw 3), .inl (cI, 241, .inl laws_c3))] := by
  refine ctI_of (cc := cX2_riseBy) (ret := (some .int)) (maxL := 8) (by decide) rfl (Nat.le_of_ble_eq_true rfl) ?_
  intro p e s m below meth c A ls C K hw hl
  exact q_X2_riseBy_0 C K a_laws a_laws_codes a_laws_lengths a_laws_letters a_laws_stack rw laws_size laws_holds laws_lengths laws_c0 laws_c1 laws_c2 laws_c3 r0 o_laws_letters o_laws_stack laws_letters laws_stack p1 p2 p3 p4 p5 p6 hF hw (lv_sub hl [0, 1, 2, 3, 4, 5, 6] rfl)
