/-! what holds at the start: statics, classes, what a throw needs -/
theorem eqi_of {args : Array Value} {s : State} {t : Term} {z : Int32} (h : (Cond.eq t (.int z)).before args s = true) : t.eval args s none [] s = some (.int z) := by
  cases hv : t.eval args s none [] s with
  | none => simp [Cond.before, Cond.holds, Cond.value, hv] at h
  | some w =>
    have hz : (Term.int z).eval args s none [] s = some (.int z) := rfl
    simp only [Cond.before, Cond.holds, Cond.value, hv, hz] at h
    cases w <;> simp_all
theorem st_arr {args : Array Value} {s : State} {t : Term} {ty : FieldType} {L : Nat} (hL : L < 2 ^ 31) (xs : Nat → Int32) (h1 : (Cond.arrayOf t ty).before args s = true) (h2 : (Cond.eq (.length t) (.int (nI L))).before args s = true) (h3 : ∀ j, j < L → (Cond.eq (.elem t (.int (nI j))) (.int (xs j))).before args s = true) : ∃ b, t.eval args s none [] s = some (.ref b) ∧ sx_X b L ty xs s s.heap ∧ b < s.heap.size := by
  obtain ⟨b, cell, ht, ha, hs, hv⟩ := Jvm.Lib.length_spec (eqi_of h2)
  obtain ⟨hc, hk, -, -⟩ := State.arrayAt?_spec ha
  have hof := Cond.arrayOf_spec h1 ht hc
  have hsz : cell.slots.size = L := by
    injection hv with hv
    have h9 := congrArg Int32.toInt hv
    rw [nI_toInt hL, show (cell.slots.size.toInt32).toInt = (cell.slots.size : Int) from nI_toInt hs] at h9
    omega
  refine ⟨b, ht, ⟨cell, hc, hof.1, hof.2, hsz, fun j hj => ?_⟩, (Array.getElem?_eq_some_iff.mp hc).1⟩
  obtain ⟨a2, j2, cell2, e1, e2, e3, -, e5⟩ := Term.elem_spec (eqi_of (h3 j hj))
  cases ht.symm.trans e1
  cases ha.symm.trans e3
  cases (show some (Value.int (nI j)) = some (.int j2) from e2)
  rw [nI_clamp (by omega)] at e5
  exact e5
abbrev sx_one (s : State) (q : sx_T) : Prop := va_Z q.1 q.2.1 q.2.2.1 (.ref q.2.2.2.1) (fun a => s.heap.size ≤ a) s s.heap ∧ sx_X q.2.2.2.1 q.2.2.2.2.2.1 q.2.2.2.2.1 q.2.2.2.2.2.2 s s.heap ∧ ¬ s.heap.size ≤ q.2.2.2.1
theorem ar_of {args : Array Value} {s : State} {ty : FieldType} (h : (Cond.arrayClass ty).before args s = true) : ∃ cA, ArrOfT s cA ty ∧ s.vm.findClass ("[" ++ ty.toString) = some cA := by
  obtain ⟨c, k, comp, h1, h2, h3⟩ := Cond.arrayClass_spec h
  exact ⟨c, fun n z => ⟨fun k h => (by cases h), k, h2, comp, h3⟩, h1⟩
theorem arO_of {args : Array Value} {s : State} {t : FieldType} (h : (Cond.arrayOver (.array t)).before args s = true) : ∃ cA, ArrOfT s cA (.array t) ∧ s.vm.findClass ("[" ++ (FieldType.array t).toString) = some cA := by
  obtain ⟨comp, c, k, h1, h2, h3, h4, h5⟩ := arrayOverA_spec h
  exact ⟨c, fun n z => ⟨fun k h => (by cases h), k, h3, comp, h4⟩, h5⟩
theorem bd_all : ∀ (w : Cond), (match w with | .castable .. => true | .declares .. => true | _ => false) = true → ∀ {A : Array Value} {s : State}, w.before A s = true → ∀ a : Array Value, w.before a s = true
  | .castable C T, _, _, _, h => fun a => va_Nw.use rfl (va_Nw.of rfl h)
  | .declares x, _, _, _, h => fun a => va_Nw.use rfl (va_Nw.of rfl h)
set_option maxRecDepth 100000 in
theorem bd_in : ∀ w ∈ bdG, w ∈ lw_tbl := by decide +kernel
set_option maxRecDepth 100000 in
theorem st_in : ∀ w ∈ ([Cond.classLink RL 8 RX11, Cond.classLink RL 16 RX12, Cond.instantiable RX11 18, Cond.instantiable RX12 46, Cond.initialized RX11, Cond.initialized RX12, Cond.methodLink RL 15 yX11_init, Cond.methodLink RL 18 yX12_init, Cond.instanceMethod yX11_init, Cond.instanceMethod yX12_init, Cond.instantiable RX0 3, Cond.instantiable RX1 3, Cond.instantiable RX2 6, Cond.instantiable RX3 1, Cond.instantiable RX4 7, Cond.instantiable RX5 10, Cond.instantiable RX6 4, Cond.instantiable RX7 5, Cond.instantiable RX8 7, Cond.instantiable RX9 3, Cond.instantiable RX10 3, Cond.arrayClass .int, Cond.arrayClass .boolean, Cond.arrayClass .long, Cond.arrayOver (.array .int), Cond.methodLinkNest RX11 9 yX10_init "GloveHouses", Cond.methodLinkNest RX6 11 yX5_init "GloveHouses", Cond.methodLinkNest RX11 34 yX5_init "GloveHouses", Cond.methodLinkNest RX11 41 yX2_init "GloveHouses", Cond.methodLinkNest RX11 60 yX3_init "GloveHouses", Cond.methodLinkNest RX11 67 yX0_init "GloveHouses", Cond.methodLinkNest RX11 96 yX7_init "GloveHouses", Cond.laysStatic "GloveHouses$Laws" "LETTERS" "[C", Cond.laysStatic "GloveHouses$PeaceReader" "LETTERS" "[C", Cond.laysStatic "GloveHouses$PeaceReader" "MOST" "[I", Cond.laysStatic "GloveHouses$PeaceReader" "USUAL" "[I", Cond.initialized RX2, Cond.initialized RX6, Cond.laysStatic "java/lang/Throwable" "UNASSIGNED_STACK" "[Ljava/lang/StackTraceElement;", Cond.laysStatic "java/lang/Throwable" "SUPPRESSED_SENTINEL" "Ljava/util/List;", Cond.initialized "java/lang/Throwable", Cond.stringRef RX11 161 "no such glove, or nothing such of it"] : List Cond), w ∈ lw_tbl := mem_pl [124, 1208, 125, 1209, 104, 116, 126, 1210, 127, 1211, 319, 241, 261, 309, 366, 160, 154, 397, 336, 292, 133, 152, 364, 1841, 267, 134, 161, 259, 262, 310, 320, 398, 269, 524, 539, 497, 109, 106, 1168, 1170, 118, 1180] rfl
theorem st_0 {s : State} {b : Nat} (hts : ∀ w ∈ lw_tbl, w.before #[Value.ref b] s = true) (hgv : (Jvm.Cond.and given_1 narrow_1).before #[Value.ref b] s = true) : ∃ a, sx_one s ("GloveHouses$Laws", "LETTERS", "[C", a, .char, 6, (fun i => nI (LLl.getD i 0))) := by
  have hs := flat_of_before _ hgv
  obtain ⟨a, h1, h2, h3⟩ := st_arr (t := (.static "GloveHouses$Laws" "LETTERS" "[C")) (ty := .char) (L := 6) (by omega) (fun i => nI (LLl.getD i 0)) (hs _ (by decide +kernel)) (hs _ (by decide +kernel)) (fun j hj => by
    rcases (show j = 0 ∨ j = 1 ∨ j = 2 ∨ j = 3 ∨ j = 4 ∨ j = 5 by omega) with rfl | rfl | rfl | rfl | rfl | rfl
    all_goals exact hs _ (by decide +kernel))
  exact ⟨a, va_Zof (hts _ (st_in _ (List.mem_of_getElem? (i := 32) rfl))) (hts _ (st_in _ (List.mem_of_getElem? (i := 36) rfl))) h1 (fun a ha => Nat.not_le.mpr ha), h2, Nat.not_le.mpr h3⟩
theorem st_1 {s : State} {b : Nat} (hts : ∀ w ∈ lw_tbl, w.before #[Value.ref b] s = true) (hgv : (Jvm.Cond.and given_1 narrow_1).before #[Value.ref b] s = true) : ∃ a, sx_one s ("GloveHouses$PeaceReader", "LETTERS", "[C", a, .char, 12, (fun i => nI (PLl.getD i 0))) := by
  have hs := flat_of_before _ hgv
  obtain ⟨a, h1, h2, h3⟩ := st_arr (t := (.static "GloveHouses$PeaceReader" "LETTERS" "[C")) (ty := .char) (L := 12) (by omega) (fun i => nI (PLl.getD i 0)) (hs _ (by decide +kernel)) (hs _ (by decide +kernel)) (fun j hj => by
    rcases (show j = 0 ∨ j = 1 ∨ j = 2 ∨ j = 3 ∨ j = 4 ∨ j = 5 ∨ j = 6 ∨ j = 7 ∨ j = 8 ∨ j = 9 ∨ j = 10 ∨ j = 11 by omega) with rfl | rfl | rfl | rfl | rfl | rfl | rfl | rfl | rfl | rfl | rfl | rfl
    all_goals exact hs _ (by decide +kernel))
  exact ⟨a, va_Zof (hts _ (st_in _ (List.mem_of_getElem? (i := 33) rfl))) (hts _ (st_in _ (List.mem_of_getElem? (i := 37) rfl))) h1 (fun a ha => Nat.not_le.mpr ha), h2, Nat.not_le.mpr h3⟩
theorem st_2 {s : State} {b : Nat} (hts : ∀ w ∈ lw_tbl, w.before #[Value.ref b] s = true) (hgv : (Jvm.Cond.and given_1 narrow_1).before #[Value.ref b] s = true) : ∃ a, sx_one s ("GloveHouses$PeaceReader", "MOST", "[I", a, .int, 12, (fun i => nI (PMl.getD i 0))) := by
  have hs := flat_of_before _ hgv
  obtain ⟨a, h1, h2, h3⟩ := st_arr (t := (.static "GloveHouses$PeaceReader" "MOST" "[I")) (ty := .int) (L := 12) (by omega) (fun i => nI (PMl.getD i 0)) (hs _ (by decide +kernel)) (hs _ (by decide +kernel)) (fun j hj => by
    rcases (show j = 0 ∨ j = 1 ∨ j = 2 ∨ j = 3 ∨ j = 4 ∨ j = 5 ∨ j = 6 ∨ j = 7 ∨ j = 8 ∨ j = 9 ∨ j = 10 ∨ j = 11 by omega) with rfl | rfl | rfl | rfl | rfl | rfl | rfl | rfl | rfl | rfl | rfl | rfl
    all_goals exact hs _ (by decide +kernel))
  exact ⟨a, va_Zof (hts _ (st_in _ (List.mem_of_getElem? (i := 34) rfl))) (hts _ (st_in _ (List.mem_of_getElem? (i := 37) rfl))) h1 (fun a ha => Nat.not_le.mpr ha), h2, Nat.not_le.mpr h3⟩
theorem st_3 {s : State} {b : Nat} (hts : ∀ w ∈ lw_tbl, w.before #[Value.ref b] s = true) (hgv : (Jvm.Cond.and given_1 narrow_1).before #[Value.ref b] s = true) : ∃ a, sx_one s ("GloveHouses$PeaceReader", "USUAL", "[I", a, .int, 12, (fun i => nI (PUl.getD i 0))) := by
  have hs := flat_of_before _ hgv
  obtain ⟨a, h1, h2, h3⟩ := st_arr (t := (.static "GloveHouses$PeaceReader" "USUAL" "[I")) (ty := .int) (L := 12) (by omega) (fun i => nI (PUl.getD i 0)) (hs _ (by decide +kernel)) (hs _ (by decide +kernel)) (fun j hj => by
    rcases (show j = 0 ∨ j = 1 ∨ j = 2 ∨ j = 3 ∨ j = 4 ∨ j = 5 ∨ j = 6 ∨ j = 7 ∨ j = 8 ∨ j = 9 ∨ j = 10 ∨ j = 11 by omega) with rfl | rfl | rfl | rfl | rfl | rfl | rfl | rfl | rfl | rfl | rfl | rfl
    all_goals exact hs _ (by decide +kernel))
  exact ⟨a, va_Zof (hts _ (st_in _ (List.mem_of_getElem? (i := 35) rfl))) (hts _ (st_in _ (List.mem_of_getElem? (i := 37) rfl))) h1 (fun a ha => Nat.not_le.mpr ha), h2, Nat.not_le.mpr h3⟩
theorem kn_start {s : State} {b : Nat} (hts : ∀ w ∈ lw_tbl, w.before #[Value.ref b] s = true) : ∃ (D : va_G), ∀ (k : Nat) (q : vw_C), vwCl[k]? = some q → u_Kn s q.1 q.2.1 q.2.2 (D.1 k) (D.2 k) := by
  obtain ⟨c0, i0, hK0⟩ := u_known (C := RX0) (T := TX0) (N := 3) (n := 3) hts inX0 (hts _ (st_in _ (List.mem_of_getElem? (i := 10) rfl)))
  obtain ⟨c1, i1, hK1⟩ := u_known (C := RX1) (T := TX1) (N := 3) (n := 3) hts inX1 (hts _ (st_in _ (List.mem_of_getElem? (i := 11) rfl)))
  obtain ⟨c2, i2, hK2⟩ := u_known (C := RX2) (T := TX2) (N := 6) (n := 6) hts inX2 (hts _ (st_in _ (List.mem_of_getElem? (i := 12) rfl)))
  obtain ⟨c3, i3, hK3⟩ := u_known (C := RX3) (T := TX3) (N := 1) (n := 1) hts inX3 (hts _ (st_in _ (List.mem_of_getElem? (i := 13) rfl)))
  obtain ⟨c4, i4, hK4⟩ := u_known (C := RX4) (T := TX4) (N := 7) (n := 7) hts inX4 (hts _ (st_in _ (List.mem_of_getElem? (i := 14) rfl)))
  obtain ⟨c5, i5, hK5⟩ := u_known (C := RX5) (T := TX5) (N := 10) (n := 10) hts inX5 (hts _ (st_in _ (List.mem_of_getElem? (i := 15) rfl)))
  obtain ⟨c6, i6, hK6⟩ := u_known (C := RX6) (T := TX6) (N := 4) (n := 4) hts inX6 (hts _ (st_in _ (List.mem_of_getElem? (i := 16) rfl)))
  obtain ⟨c7, i7, hK7⟩ := u_known (C := RX7) (T := TX7) (N := 5) (n := 5) hts inX7 (hts _ (st_in _ (List.mem_of_getElem? (i := 17) rfl)))
  obtain ⟨c8, i8, hK8⟩ := u_known (C := RX8) (T := TX8) (N := 7) (n := 7) hts inX8 (hts _ (st_in _ (List.mem_of_getElem? (i := 18) rfl)))
  obtain ⟨c9, i9, hK9⟩ := u_known (C := RX9) (T := TX9) (N := 3) (n := 3) hts inX9 (hts _ (st_in _ (List.mem_of_getElem? (i := 19) rfl)))
  obtain ⟨c10, i10, hK10⟩ := u_known (C := RX10) (T := TX10) (N := 3) (n := 3) hts inX10 (hts _ (st_in _ (List.mem_of_getElem? (i := 20) rfl)))
  obtain ⟨c11, i11, hK11⟩ := u_known (C := RX11) (T := TX11) (N := 18) (n := 18) hts inX11 (hts _ (st_in _ (List.mem_of_getElem? (i := 2) rfl)))
  obtain ⟨c12, i12, hK12⟩ := u_known (C := RX12) (T := TX12) (N := 46) (n := 46) hts inX12 (hts _ (st_in _ (List.mem_of_getElem? (i := 3) rfl)))
  have h2 : ∀ k : Nat, ∃ (p : ClassId × (Nat → Nat)), ∀ q : vw_C, vwCl[k]? = some q → u_Kn s q.1 q.2.1 q.2.2 p.1 p.2 := by
    intro k
    match k with
    | 0 => exact ⟨(c0, i0), fun q hq => by cases hq; exact hK0⟩
    | 1 => exact ⟨(c1, i1), fun q hq => by cases hq; exact hK1⟩
    | 2 => exact ⟨(c2, i2), fun q hq => by cases hq; exact hK2⟩
    | 3 => exact ⟨(c3, i3), fun q hq => by cases hq; exact hK3⟩
    | 4 => exact ⟨(c4, i4), fun q hq => by cases hq; exact hK4⟩
    | 5 => exact ⟨(c5, i5), fun q hq => by cases hq; exact hK5⟩
    | 6 => exact ⟨(c6, i6), fun q hq => by cases hq; exact hK6⟩
    | 7 => exact ⟨(c7, i7), fun q hq => by cases hq; exact hK7⟩
    | 8 => exact ⟨(c8, i8), fun q hq => by cases hq; exact hK8⟩
    | 9 => exact ⟨(c9, i9), fun q hq => by cases hq; exact hK9⟩
    | 10 => exact ⟨(c10, i10), fun q hq => by cases hq; exact hK10⟩
    | 11 => exact ⟨(c11, i11), fun q hq => by cases hq; exact hK11⟩
    | 12 => exact ⟨(c12, i12), fun q hq => by cases hq; exact hK12⟩
    | k + 13 => exact ⟨(c0, i0), fun q hq => by simp [vwCl] at hq⟩
  exact ⟨(fun k => (Classical.choose (h2 k)).1, fun k => (Classical.choose (h2 k)).2), fun k q hq => Classical.choose_spec (h2 k) q hq⟩
theorem K_start {s : State} {b : Nat} (hts : ∀ w ∈ lw_tbl, w.before #[Value.ref b] s = true) : ∃ (D : va_G) (cI cZ cO : ClassId), va_K D vwCl (tyL cI cZ cO) s := by
  obtain ⟨D, hD⟩ := kn_start hts
  obtain ⟨cI, hI1, hI2⟩ := ar_of (hts _ (st_in _ (List.mem_of_getElem? (i := 21) rfl)))
  obtain ⟨cZ, hZ1, hZ2⟩ := ar_of (hts _ (st_in _ (List.mem_of_getElem? (i := 22) rfl)))
  obtain ⟨cO, hO1, hO2⟩ := arO_of (hts _ (st_in _ (List.mem_of_getElem? (i := 24) rfl)))
  refine ⟨D, cI, cZ, cO, hD, fun k q hq => ?_⟩
  match k with
  | 0 => cases hq; exact ⟨hI1, hI2⟩
  | 1 => cases hq; exact ⟨hZ1, hZ2⟩
  | 2 => cases hq; exact ⟨hO1, hO2⟩
  | k + 3 => simp [tyL] at hq
theorem Thr_start {s : State} {b : Nat} (hts : ∀ w ∈ lw_tbl, w.before #[Value.ref b] s = true) (hgv : (Jvm.Cond.and given_1 narrow_1).before #[Value.ref b] s = true) : Thr (fun a => s.heap.size ≤ a) s := by
  have hs := flat_of_before _ hgv
  obtain ⟨sa, -, -, -, hsa, -⟩ := Cond.exactly_spec (hs (Cond.exactly (.string "GloveHouses" 161) "java/lang/String") (by decide +kernel))
  refine ⟨vx_Zqof (hts _ (st_in _ (List.mem_of_getElem? (i := 38) rfl))) (hts _ (st_in _ (List.mem_of_getElem? (i := 40) rfl))) (hs _ (by decide +kernel)) (fun a ha => Nat.not_le.mpr ha), vx_Zqof (hts _ (st_in _ (List.mem_of_getElem? (i := 39) rfl))) (hts _ (st_in _ (List.mem_of_getElem? (i := 40) rfl))) (hs _ (by decide +kernel)) (fun a ha => Nat.not_le.mpr ha), ⟨sa, vk_R.of (hts _ (st_in _ (List.mem_of_getElem? (i := 41) rfl))) hsa⟩, fun w hw => bd_all w (List.all_eq_true.mp tbG w hw) (hts w (bd_in w hw))⟩
theorem nw_start {s : State} {b : Nat} (hts : ∀ w ∈ lw_tbl, w.before #[Value.ref b] s = true) : nwX nwL s := by
  refine ⟨fun a => arrayOver_alikeB (Vm.Alike.refl s.vm) (hts _ (st_in _ (List.mem_of_getElem? (i := 24) rfl))), fun q hq => ?_⟩
  simp only [nwL, List.mem_cons, List.not_mem_nil, or_false] at hq
  rcases hq with rfl | rfl | rfl | rfl | rfl | rfl | rfl
  · exact va_Nw.of rfl (hts _ (st_in _ (List.mem_of_getElem? (i := 25) rfl)))
  · exact va_Nw.of rfl (hts _ (st_in _ (List.mem_of_getElem? (i := 26) rfl)))
  · exact va_Nw.of rfl (hts _ (st_in _ (List.mem_of_getElem? (i := 27) rfl)))
  · exact va_Nw.of rfl (hts _ (st_in _ (List.mem_of_getElem? (i := 28) rfl)))
  · exact va_Nw.of rfl (hts _ (st_in _ (List.mem_of_getElem? (i := 29) rfl)))
  · exact va_Nw.of rfl (hts _ (st_in _ (List.mem_of_getElem? (i := 30) rfl)))
  · exact va_Nw.of rfl (hts _ (st_in _ (List.mem_of_getElem? (i := 31) rfl)))
