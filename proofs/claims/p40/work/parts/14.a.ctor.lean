section
/-! constructors: a contract that says which cells come -/
theorem va_AOA.moved {ty : FieldType} {u U : State} (hvm : u.vm.Alike U.vm) (h : va_AOA ty u) : va_AOA ty U := fun args => arrayOver_alikeB hvm (h args)
def nwX (nw : List (String × Nat × MethodName × String)) (U : State) : Prop := va_AOA .int U ∧ ∀ q ∈ nw, va_Nw (.methodLinkNest q.1 q.2.1 q.2.2.1 q.2.2.2) U
theorem nwX.warm {nw : List (String × Nat × MethodName × String)} {s U : State} (h : nwX nw s) (hW : s.WarmedH U.vm) : nwX nw U := ⟨h.1.moved hW.alike, fun q hq => va_Nw.warmM hW (h.2 q hq)⟩
abbrev uN : Type := (Nat → Nat) × (Nat → Nat)
def PreN (sx : List sx_T) (D : va_G) (tys : List (ClassId × FieldType)) (nw : List (String × Nat × MethodName × String)) (wc : va_W) (sz : Nat) (U : State) : Prop := PreC sx D tys wc sz U ∧ nwX nw U
def QcN (D : va_G) (A : Nat → Prop) (w1 : uN → va_W) : Array Value → State → Outcome → State → Prop := va_Qv (fun (_ : uN) => True) (fun u t => va_P D vwCl (w1 u) t.heap ∧ va_D A (w1 u)) A
def CtN (l : Launch) (y : MethodName) (wsM : List Cond) (rm : Room) (sx : List sx_T) (D : va_G) (tys : List (ClassId × FieldType)) (nw : List (String × Nat × MethodName × String)) (av : List Value) (wc : va_W) (w1 : uN → va_W) (mc ms : Nat) : Prop := ∀ sz : Nat, Met l y wsM rm (va_Pc av (PreN sx D tys nw wc sz)) (QcN D (va_A wc sz) w1) mc ms (va_A wc sz)
theorem PreN.blind {sx : List sx_T} {D : va_G} {tys : List (ClassId × FieldType)} {nw : List (String × Nat × MethodName × String)} {av : List Value} {wc : va_W} {sz : Nat} : FrameBlind (va_Pc av (PreN sx D tys nw wc sz)) := fun a U g mk q => by
  obtain ⟨q0, qC, qN⟩ := q
  have h := PreC.blind (av := av) (sx := sx) (D := D) (tys := tys) (wc := wc) (sz := sz) a U g mk ⟨q0, qC⟩
  exact ⟨q0, h.2, qN.1.moved (U := U.calling g mk a) (Vm.Alike.refl U.vm), fun x hx => va_Nw.same (U := U.calling g mk a) rfl rfl (qN.2 x hx)⟩
theorem Wo.callN {D : va_G} {A : Nat → Prop} {s : State} {ws wr w1 : va_W} {H H1 : Heap} {locs locs1 : List Loc} {cl : Nat × va_E} (hw : Wo D A s ws H locs) (hA : ∀ q : Nat, s.heap.size ≤ q → A q) (j : Nat) (hj : ws[j]? = some cl) (isR : List Nat) (hR : isR.map (fun i => ws[i]?) = wr.map some) (hn : va_nd isR = true) (hdis : ∀ i ∈ isR, i ∉ [j]) (hP1 : va_P D vwCl w1 H1) (hD1 : va_D (va_A [cl] H.size) w1) (hk : ∀ q : Nat, q < H.size → ¬ va_A [cl] H.size q → H1[q]? = H[q]?) (hS1 : va_S A s.heap H1 locs1) : Wo D A s (wr ++ w1) H1 locs1 := by
  have hC : [j].map (fun i => ws[i]?) = [cl].map some := by simp [hj]
  obtain ⟨hP, hD⟩ := va_join (wc := [cl]) hw.1 hw.2.1 [j] isR hC hR hn hdis hk (va_free hw.2.1 hw.2.2 hA [j] hC) hP1 hD1
  exact ⟨hP, hD, hS1⟩
theorem Wo.pick {D : va_G} {A : Nat → Prop} {s : State} {ws ws' : va_W} {H : Heap} {locs : List Loc} (hw : Wo D A s ws H locs) (is : List Nat) (hn : va_nd is = true) (hs : is.map (fun i => ws[i]?) = ws'.map some) : Wo D A s ws' H locs := by
  refine ⟨fun k q hk => ?_, hw.2.1.sub is hn hs, hw.2.2⟩
  obtain ⟨i, -, h⟩ := pick_at hs hk
  exact hw.1 i q h
section CN
variable {p : Program} {l : Launch} {e : Env} {R : Room} {s : State} {m : MethodId} {args : Array Value} {below : List Frame} {meth : Method} {c : Code} {H : Heap} {locs : List Loc} {cells slots : Nat} {Q : State → Prop}
variable {own : String} {Ts : List Cond} {cc : ByteArray} {nL : Nat} {ret : Option FieldType} {sx : List sx_T} {D : va_G} {tys : List (ClassId × FieldType)} {A : Nat → Prop} {ws : va_W} {pc : Nat} {ls : Array Slot} {rest st0 : List Value} {nw : List (String × Nat × MethodName × String)} {cI cZ cO : ClassId}
theorem ctN_of {y : MethodName} {wsM ws' : List Cond} {rm : Room} {av : List Value} {wc : va_W} {w1 : uN → va_W} {maxL mc ms : Nat} (hy : plainName y.cls = true) (hw : wsM = Cond.code y cc maxL ret :: ws') (hlen : (lg_sl av).length ≤ maxL)
    (body : ∀ (p : Program) (e : Env) (s : State) (m : MethodId) (below : List Frame) (meth : Method) (c : Code) (A : Nat → Prop) (ls : Array Slot), Cx p s m av.toArray meth c y.cls wsM cc maxL ret → Kx sx D tys A s → nwX nw s → meth.name = y.name → Wo D A s wc s.heap [] → lv_has ls maxL (lv_args 0 av) → W p l e rm s m av.toArray below meth c s.heap [] 0 0 (MQ below (QcN D A w1) av.toArray s mc ms A) (F0 m 0 ls [])) : CtN l y wsM rm sx D tys nw av wc w1 mc ms := by
  intro sz
  refine Met.ofW (cc := cc) (maxL := maxL) (ret := ret) hy hw ?_
  intro p e s m args below meth c s₁ B hml hv
  obtain ⟨rfl, ⟨hsz, hP, hK, hD0, hX⟩, hN⟩ := hv
  subst hsz
  have hl := lv_entry av hlen
  rw [lg_entry_eq]
  exact body p e s m below meth c (va_A wc s.heap.size) _ ⟨B.exec, B.bytes, hml, findClass_of_methodNamed B.named, atoms_spec (ws := wsM) B.pre, B.returns, B.notSynchronized⟩ ⟨hK, hX, fun q h => Or.inr h⟩ hN (name_of_methodNamed B.named B.method).1 ⟨hP, hD0.self, va_S.rf⟩ hl
theorem retN (C : Cx p s m args meth c own Ts cc nL none) {w1 : uN → va_W} (u : uN) (hw : Wo D A s (w1 u) H locs) (hdg : decode cc pc = .ok (.return_, 1)) : W p l e R s m args below meth c H locs cells slots (MQ below (QcN D A w1) args s cells slots A) (F0 m pc ls []) := by
  obtain ⟨hx, hb, hml, hown, hts, hr, hlk⟩ := C
  obtain ⟨hP, hD, hS⟩ := hw
  exact W.vret hx hb hr (fun t ht hW => ⟨⟨u, rfl, trivial, by rw [ht]; exact hP, hD⟩, hS.F ht⟩) hS.2.2 hdg hlk
theorem clsI_eq (hK : va_K D vwCl (tyL cI cZ cO) s) {cA : ClassId} (h : va_K D vwCl (tyL cI cZ cO ++ [(cA, .int)]) s) : cA = cI := by
  have h1 : s.vm.findClass ("[" ++ FieldType.int.toString) = some cI := (hK.2 0 _ rfl).2
  have h2 : s.vm.findClass ("[" ++ FieldType.int.toString) = some cA := (h.2 3 _ rfl).2
  exact Option.some.inj (h2.symm.trans h1)
theorem clsZ_eq (hK : va_K D vwCl (tyL cI cZ cO) s) {cA : ClassId} (h : va_K D vwCl (tyL cI cZ cO ++ [(cA, .boolean)]) s) : cA = cZ := by
  have h1 : s.vm.findClass ("[" ++ FieldType.boolean.toString) = some cZ := (hK.2 1 _ rfl).2
  have h2 : s.vm.findClass ("[" ++ FieldType.boolean.toString) = some cA := (h.2 3 _ rfl).2
  exact Option.some.inj (h2.symm.trans h1)
theorem clsO_eq (hK : va_K D vwCl (tyL cI cZ cO) s) {cA : ClassId} (h : va_K D vwCl (tyL cI cZ cO ++ [(cA, .array .int)]) s) : cA = cO := by
  have h1 : s.vm.findClass ("[" ++ (FieldType.array .int).toString) = some cO := (hK.2 2 _ rfl).2
  have h2 : s.vm.findClass ("[" ++ (FieldType.array .int).toString) = some cA := (h.2 3 _ rfl).2
  exact Option.some.inj (h2.symm.trans h1)
theorem nw_I (hx : p.tables.exec = Jvm.exec) (hb : c.code = cc) (harr : (Cond.arrayClass .int).before args s = true) (K : Kx sx D (tyL cI cZ cO) A s) (hw : Wo D A s ws H locs) {n : Int32} (N' : Nat) (hn : ¬ n < 0) (hN : n.toNatClampNeg = N') (hbytes : N' * componentBytes .int ≤ 536870912) (hcells : cells + 1 ≤ R.cells) (hslots : slots + N' ≤ R.slots) (hdg : decode cc pc = .ok (.newarray .int, 2))
    (kk : ∀ (q : Nat) (H1 : Heap), Wo D A s (ws ++ [(q, .inl (cI, N', .inl (fun _ => 0)))]) H1 locs → W p l e R s m args below meth c H1 locs (cells + 1) (slots + N') Q (F0 m (pc + 2) ls (.ref q :: rest))) : W p l e R s m args below meth c H locs cells slots Q (F0 m pc ls (.int n :: rest)) := by
  refine va_newa (atype := .int) (ty := .int) hx hb harr rfl K.1 hw.1 hw.2.1 hw.2.2 K.2.2 (a0 := (N', .inl (fun _ => 0))) (fun cA => rfl) hn hN hbytes hcells hslots hdg (fun q cA H1 hK1 hP1 hD1 hS1 => ?_)
  obtain rfl := clsI_eq K.1 hK1
  exact kk q H1 ⟨hP1, hD1, hS1⟩
theorem nw_Z (hx : p.tables.exec = Jvm.exec) (hb : c.code = cc) (harr : (Cond.arrayClass .boolean).before args s = true) (K : Kx sx D (tyL cI cZ cO) A s) (hw : Wo D A s ws H locs) {n : Int32} (N' : Nat) (hn : ¬ n < 0) (hN : n.toNatClampNeg = N') (hbytes : N' * componentBytes .boolean ≤ 536870912) (hcells : cells + 1 ≤ R.cells) (hslots : slots + N' ≤ R.slots) (hdg : decode cc pc = .ok (.newarray .boolean, 2))
    (kk : ∀ (q : Nat) (H1 : Heap), Wo D A s (ws ++ [(q, .inl (cZ, N', .inl (fun _ => 0)))]) H1 locs → W p l e R s m args below meth c H1 locs (cells + 1) (slots + N') Q (F0 m (pc + 2) ls (.ref q :: rest))) : W p l e R s m args below meth c H locs cells slots Q (F0 m pc ls (.int n :: rest)) := by
  refine va_newa (atype := .boolean) (ty := .boolean) hx hb harr rfl K.1 hw.1 hw.2.1 hw.2.2 K.2.2 (a0 := (N', .inl (fun _ => 0))) (fun cA => rfl) hn hN hbytes hcells hslots hdg (fun q cA H1 hK1 hP1 hD1 hS1 => ?_)
  obtain rfl := clsZ_eq K.1 hK1
  exact kk q H1 ⟨hP1, hD1, hS1⟩
theorem nw_G (hx : p.tables.exec = Jvm.exec) (hb : c.code = cc) (hown : s.vm.findClass own = some m.cls) {index : Nat} (hcl : (Cond.classLink own index "[[I").before args s = true) (hov : va_AOA .int s) (harr : (Cond.arrayClass .int).before args s = true) (K : Kx sx D (tyL cI cZ cO) A s) (hw : Wo D A s ws H locs) {n k : Int32} (hn : ¬ n < 0) (hk : ¬ k < 0) (hN : n.toNatClampNeg = 4) (hM : k.toNatClampNeg = 241) (hcells : cells + 5 ≤ R.cells) (hslots : slots + 968 ≤ R.slots) (hdg : decode cc pc = .ok (.multianewarray index 2, 4))
    (kk : ∀ (q : Nat) (rw : Nat → Nat) (H1 : Heap), Wo D A s (ws ++ [(q, .inl (cO, 4, .inr (.inr (.inr (.inr (rwF rw)))))), (rw 0, .inl (cI, 241, .inl (fun _ => 0))), (rw 1, .inl (cI, 241, .inl (fun _ => 0))), (rw 2, .inl (cI, 241, .inl (fun _ => 0))), (rw 3, .inl (cI, 241, .inl (fun _ => 0)))]) H1 locs → W p l e R s m args below meth c H1 locs (cells + 5) (slots + 968) Q (F0 m (pc + 4) ls (.ref q :: rest))) : W p l e R s m args below meth c H locs cells slots Q (F0 m pc ls (.int k :: .int n :: rest)) := by
  have hcy : s.vm.findClass (FieldType.array .int).toString = some cI := (K.1.2 0 _ rfl).2
  have hz : ∀ (N : Nat) (c9 : ClassId), Jvm.Free.Multi.innerC c9 N (defaultValue .int) = vp_cell c9 (N, .inl (fun _ => 0)) := fun N c9 => by
    show ({ cls := c9, slots := Array.replicate N (defaultValue .int), vm := .none } : Cell) = arrV c9 N (fun _ => .int 0)
    rw [arrV_new]
    rfl
  have e0 : ws ++ va_pl [] (fun _ => (.inr (0, []) : va_E)) = ws := by simp [va_pl]
  refine va_mna (X := ws) (L := []) (f := fun _ => .inr (0, [])) (z := (241, .inl (fun _ => 0))) (N' := 4) (K' := 241) (ty := .int) hx hb hown hcl hov harr hcy K.1 (by rw [e0]; exact hw.1) (by rw [e0]; exact hw.2.1) hw.2.2 K.2.2 hn hk hN hM (by decide) (by decide) (by decide) rfl rfl (by show cells + (1 + 4) ≤ R.cells; omega) (by show slots + (4 + 4 * 241) ≤ R.slots; omega) (hz 241) hdg (fun q r cA H1 hinj hnL hK1 hP1 hD1 hS1 => ?_)
  obtain rfl := clsO_eq K.1 hK1
  have e1 : (ws ++ [(q, (.inl (cA, 4, .inr (.inr (.inr (.inr (fun i => if i < 4 then some (r i) else none))))) : va_E))]) ++ va_pl ([] ++ (List.range 4).map r) (vr_up (fun _ => (.inr (0, []) : va_E)) ((List.range 4).map r) (.inl (cI, 241, .inl (fun _ => 0)))) = ws ++ [(q, .inl (cA, 4, .inr (.inr (.inr (.inr (rwF r)))))), (r 0, .inl (cI, 241, .inl (fun _ => 0))), (r 1, .inl (cI, 241, .inl (fun _ => 0))), (r 2, .inl (cI, 241, .inl (fun _ => 0))), (r 3, .inl (cI, 241, .inl (fun _ => 0)))] := by
    simp [va_pl, vr_up, List.range, List.range.loop]
  rw [e1] at hP1 hD1
  exact kk q r H1 ⟨hP1, hD1, hS1⟩
variable {y : MethodName} {bytes : ByteArray} {maxL n index mc ms : Nat} {wsM : List Cond} {rm : Room} {b : Nat} {As : List Value} {w1 : uN → va_W} {wr : va_W}
theorem pre_ofN (K : Kx sx D tys A s) (hN : nwX nw s) (hw : Wo D A s ws H locs) {wc : va_W} (is : List Nat) (hn : va_nd is = true) (hC : is.map (fun i => ws[i]?) = wc.map some) {av : List Value} : ∀ U : State, U.heap = H → s.WarmedH U.vm → va_Pc av (PreN sx D tys nw wc H.size) av.toArray U := fun U hU hW => ⟨rfl, (pre_of K hw is hn hC (av := av) U hU hW).2, hN.warm hW⟩
theorem cl_I (C : Cx p s m args meth c own Ts cc nL ret) (K : Kx sx D tys A s) (hN : nwX nw s) (hw : Wo D A s ws H locs) {cl : Nat × va_E} (hM : CtN l y wsM rm sx D tys nw (.ref b :: As) [cl] w1 mc ms) (j : Nat) (hj : ws[j]? = some cl) (isR : List Nat) (hR : isR.map (fun i => ws[i]?) = wr.map some) (hn : va_nd isR = true) (hdis : ∀ i ∈ isR, i ∉ [j]) (cw : CallB R s args own index y bytes maxL none wsM rm mc ms n ∧ y.name = "<init>" ∧ (Cond.instanceMethod y).before args s = true) (hln : As.length = n) {lv : List (Nat × Value)} (hls : lv_has ls nL lv) (hst : st0 = As.reverse ++ .ref b :: rest) (hcat : (rest.map fun v => v.category).sum ≤ 8) (hdg : decode cc pc = .ok (.invokespecial index, 3)) (hf : cells + mc ≤ R.cells ∧ slots + ms ≤ R.slots)
    (kk : ∀ (u : uN) (H1 : Heap) (locs1 : List Loc), Wo D A s (wr ++ w1 u) H1 locs1 → W p l e R s m args below meth c H1 locs1 (cells + mc) (slots + ms) Q (F0 m (pc + 3) ls rest)) : W p l e R s m args below meth c H locs cells slots Q (F0 m pc ls st0) := by
  obtain ⟨hx, hb, hml, hown, hts, hr, hlk⟩ := C
  have hC : [j].map (fun i => ws[i]?) = [cl].map some := by simp [hj]
  have hFc := va_free hw.2.1 hw.2.2 K.2.2 [j] hC
  refine va_callv (va_runI (As := As) (rest := rest) ⟨hx, hb, hml, hown, hts⟩ (hM H.size) cw ⟨PreN.blind, pre_ofN K hN hw [j] (by simp [va_nd]) hC⟩ rfl hln hls.1 hst (lv_room hcat) hdg hf) hw.2.2 (fun q _ h => hFc q h) hFc (fun u t H1 locs1 ht hvm hp hB hz1 hk1 hS1 => ?_)
  exact kk u H1 locs1 (hw.callN K.2.2 j hj isR hR hn hdis (by rw [← ht]; exact hB.1) hB.2 hk1 hS1)
theorem cl_IN {host : String} (C : Cx p s m args meth c own Ts cc nL ret) (K : Kx sx D tys A s) (hN : nwX nw s) (hw : Wo D A s ws H locs) {cl : Nat × va_E} (hM : CtN l y wsM rm sx D tys nw (.ref b :: As) [cl] w1 mc ms) (j : Nat) (hj : ws[j]? = some cl) (isR : List Nat) (hR : isR.map (fun i => ws[i]?) = wr.map some) (hn : va_nd isR = true) (hdis : ∀ i ∈ isR, i ∉ [j]) (cw : va_CN R s args own index y host bytes maxL none wsM rm mc ms n ∧ y.name = "<init>" ∧ (Cond.instanceMethod y).before args s = true) (hln : As.length = n) {lv : List (Nat × Value)} (hls : lv_has ls nL lv) (hst : st0 = As.reverse ++ .ref b :: rest) (hcat : (rest.map fun v => v.category).sum ≤ 8) (hdg : decode cc pc = .ok (.invokespecial index, 3)) (hf : cells + mc ≤ R.cells ∧ slots + ms ≤ R.slots)
    (kk : ∀ (u : uN) (H1 : Heap) (locs1 : List Loc), Wo D A s (wr ++ w1 u) H1 locs1 → W p l e R s m args below meth c H1 locs1 (cells + mc) (slots + ms) Q (F0 m (pc + 3) ls rest)) : W p l e R s m args below meth c H locs cells slots Q (F0 m pc ls st0) := by
  obtain ⟨hx, hb, hml, hown, hts, hr, hlk⟩ := C
  have hC : [j].map (fun i => ws[i]?) = [cl].map some := by simp [hj]
  have hFc := va_free hw.2.1 hw.2.2 K.2.2 [j] hC
  refine va_callv (va_runIN (As := As) (rest := rest) ⟨hx, hb, hml, hown, hts⟩ (hM H.size) cw ⟨PreN.blind, pre_ofN K hN hw [j] (by simp [va_nd]) hC⟩ rfl hln hls.1 hst (lv_room hcat) hdg hf) hw.2.2 (fun q _ h => hFc q h) hFc (fun u t H1 locs1 ht hvm hp hB hz1 hk1 hS1 => ?_)
  exact kk u H1 locs1 (hw.callN K.2.2 j hj isR hR hn hdis (by rw [← ht]; exact hB.1) hB.2 hk1 hS1)
end CN
end
section
def nwL : List (String × Nat × MethodName × String) := [(RX11, 9, yX10_init, "GloveHouses"), (RX6, 11, yX5_init, "GloveHouses"), (RX11, 34, yX5_init, "GloveHouses"), (RX11, 41, yX2_init, "GloveHouses"), (RX11, 60, yX3_init, "GloveHouses"), (RX11, 67, yX0_init, "GloveHouses"), (RX11, 96, yX7_init, "GloveHouses")]
abbrev rmN_X10 : Room := { frames := 1, cells := 1, slots := 240, locals := 12 }
theorem in_X10_init_X10 : ∀ w ∈ u_ws RX10 TX10 3, w ∈ wsX10_init := fun w h => List.mem_cons_of_mem _ (bi_wsX100 w h)
theorem lk_X10_init_0 : Cond.methodLink RX10 3 objectInit ∈ wsX10_init := List.mem_cons_of_mem _ (bi_wsL_law0_r3 _ (List.mem_of_getElem? (i := 20) rfl))
theorem lk_X10_init_1 : Cond.instanceMethod objectInit ∈ wsX10_init := List.mem_cons_of_mem _ (bi_wsL_law0_r1 _ (List.mem_of_getElem? (i := 12) rfl))
theorem lk_X10_init_2 : Cond.code objectInit ⟨#[0xb1]⟩ 1 none ∈ wsX10_init := List.mem_cons_of_mem _ (bi_wsL_law0_r1 _ (List.mem_of_getElem? (i := 13) rfl))
theorem lk_X10_init_3 : Cond.arrayClass .int ∈ wsX10_init := List.mem_cons_of_mem _ (bi_wsL_law0_r3 _ (List.mem_of_getElem? (i := 13) rfl))
theorem lk_X10_init_4 : Cond.fieldLink RX10 9 "GloveHouses$Tape" "bytes" "[I" ∈ wsX10_init := List.mem_cons_of_mem _ (bi_wsL_law0_r3 _ (List.mem_of_getElem? (i := 21) rfl))
set_option maxHeartbeats 4000000 in
set_option maxRecDepth 100000 in
theorem n_X10 {l : Launch} {sx : List sx_T} {D : va_G} {cI cZ cO : ClassId} (a_o : Nat) : CtN l yX10_init wsX10_init rmN_X10 sx D (tyL cI cZ cO) nwL [.ref a_o] [(oX10 a_o .null (.int 0) (.int 0))] (fun u => [(oX10 a_o (.ref (u.1 0)) (.int 0) (.int 0)), ((u.1 0), .inl (cI, 240, .inl (fun _ => 0)))]) 1 240 := by
  refine ctN_of (cc := cX10_init) (ret := none) (maxL := 1) (by decide +kernel) rfl (Nat.le_of_ble_eq_true rfl) ?_
  intro p e s m below meth c A ls C K hN hin hw hl
  obtain ⟨hx, hb, hml, hown, hts, hr, hlk⟩ := id C
  obtain ⟨hK, hX, hA⟩ := id K
  have hl : lv_has ls 1 [(0, .ref a_o)] := hl
  refine lv_aload_n hx hb dX10_init_0 rfl (lv_at hl 0 rfl) ?_
  refine W.objInit hx hb hown (hts _ lk_X10_init_0) (hts _ lk_X10_init_1) (hts _ lk_X10_init_2) rfl (by rw [hml]; exact hl.1) rfl dX10_init_1 (Nat.le_of_ble_eq_true rfl) (Nat.le_of_ble_eq_true rfl) ?_
  refine W.eq (g2 := F0 m 4 ls []) rfl ?_
  refine lv_aload_n hx hb dX10_init_4 rfl (lv_at hl 0 rfl) ?_
  refine lv_sipush (v := (240 : Int32)) hx hb dX10_init_5 (by decide +kernel) ?_
  refine nw_I hx hb (hts _ lk_X10_init_3) K hw 240 (by decide +kernel) (by decide +kernel) (by decide +kernel) (Nat.le_of_ble_eq_true rfl) (Nat.le_of_ble_eq_true rfl) dX10_init_8 (fun q1 H hw => ?_)
  have hw : Wo D A s [(oX10 a_o .null (.int 0) (.int 0)), (q1, .inl (cI, 240, .inl (fun _ => 0)))] H _ := hw
  refine W.widen (k := 1) (n := 240) (Nat.le_refl _) (Nat.le_refl _) ?_
  refine va_putF (ci := 10) (v := .ref q1) (ty := .array .int) (C := RX10) (T := TX10) (N := 3) hx hb hts in_X10_init_X10 tyX10 tyX10_ok nmX10 hown hK hw.1 hw.2.1 hw.2.2 0 rfl rfl 0 (by decide +kernel) (hts _ lk_X10_init_4) (fun _ h9 => h9) rfl hin rfl (by decide +kernel) rfl rfl (Nat.le_of_ble_eq_true rfl) dX10_init_10 (fun H locs hP hD hS => ?_)
  have hw : Wo D A s [(oX10 a_o (.ref q1) (.int 0) (.int 0)), (q1, .inl (cI, 240, .inl (fun _ => 0)))] H _ := ⟨hP, hD, hS⟩
  exact retN (w1 := fun u => [(oX10 a_o (.ref (u.1 0)) (.int 0) (.int 0)), ((u.1 0), .inl (cI, 240, .inl (fun _ => 0)))]) C (fun k => ([q1] : List Nat).getD k 0, (fun _ => 0)) hw dX10_init_13
abbrev rmN_X5 : Room := { frames := 1, cells := 6, slots := 34, locals := 12 }
theorem in_X5_init_X5 : ∀ w ∈ u_ws RX5 TX5 10, w ∈ wsX5_init := fun w h => List.mem_cons_of_mem _ (bi_wsX50 w h)
theorem lk_X5_init_0 : Cond.methodLink RX5 3 objectInit ∈ wsX5_init := List.mem_cons_of_mem _ (bi_wsL_law0_r4 _ (List.mem_of_getElem? (i := 8) rfl))
theorem lk_X5_init_1 : Cond.instanceMethod objectInit ∈ wsX5_init := List.mem_cons_of_mem _ (bi_wsL_law0_r1 _ (List.mem_of_getElem? (i := 12) rfl))
theorem lk_X5_init_2 : Cond.code objectInit ⟨#[0xb1]⟩ 1 none ∈ wsX5_init := List.mem_cons_of_mem _ (bi_wsL_law0_r1 _ (List.mem_of_getElem? (i := 13) rfl))
theorem lk_X5_init_3 : Cond.arrayClass .int ∈ wsX5_init := List.mem_cons_of_mem _ (bi_wsL_law0_r3 _ (List.mem_of_getElem? (i := 13) rfl))
theorem lk_X5_init_4 : Cond.fieldLink RX5 9 "GloveHouses$Peace" "house" "[I" ∈ wsX5_init := List.mem_cons_of_mem _ (bi_wsL_law0_r4 _ (List.mem_of_getElem? (i := 9) rfl))
theorem lk_X5_init_5 : Cond.fieldLink RX5 15 "GloveHouses$Peace" "free" "[I" ∈ wsX5_init := List.mem_cons_of_mem _ (bi_wsL_law0_r4 _ (List.mem_of_getElem? (i := 10) rfl))
theorem lk_X5_init_6 : Cond.fieldLink RX5 18 "GloveHouses$Peace" "stuffed" "[I" ∈ wsX5_init := List.mem_cons_of_mem _ (bi_wsL_law0_r4 _ (List.mem_of_getElem? (i := 11) rfl))
theorem lk_X5_init_7 : Cond.fieldLink RX5 21 "GloveHouses$Peace" "after" "[I" ∈ wsX5_init := List.mem_cons_of_mem _ (bi_wsL_law0_r4 _ (List.mem_of_getElem? (i := 12) rfl))
theorem lk_X5_init_8 : Cond.fieldLink RX5 24 "GloveHouses$Peace" "weight" "[I" ∈ wsX5_init := List.mem_cons_of_mem _ (bi_wsL_law0_r4 _ (List.mem_of_getElem? (i := 13) rfl))
theorem lk_X5_init_9 : Cond.fieldLink RX5 27 "GloveHouses$Peace" "need" "[I" ∈ wsX5_init := List.mem_cons_of_mem _ (bi_wsL_law0_r4 _ (List.mem_of_getElem? (i := 14) rfl))
set_option maxHeartbeats 4000000 in
set_option maxRecDepth 100000 in
theorem n_X5 {l : Launch} {sx : List sx_T} {D : va_G} {cI cZ cO : ClassId} (a_o : Nat) : CtN l yX5_init wsX5_init rmN_X5 sx D (tyL cI cZ cO) nwL [.ref a_o] [(oX5 a_o (.int 0) (.int 0) (.int 0) (.int 0) .null .null .null .null .null .null)] (fun u => [(oX5 a_o (.int 0) (.int 0) (.int 0) (.int 0) (.ref (u.1 0)) (.ref (u.1 1)) (.ref (u.1 2)) (.ref (u.1 3)) (.ref (u.1 4)) (.ref (u.1 5))), ((u.1 0), .inl (cI, 6, .inl (fun _ => 0))), ((u.1 1), .inl (cI, 6, .inl (fun _ => 0))), ((u.1 2), .inl (cI, 6, .inl (fun _ => 0))), ((u.1 3), .inl (cI, 6, .inl (fun _ => 0))), ((u.1 4), .inl (cI, 5, .inl (fun _ => 0))), ((u.1 5), .inl (cI, 5, .inl (fun _ => 0)))]) 6 34 := by
  refine ctN_of (cc := cX5_init) (ret := none) (maxL := 1) (by decide +kernel) rfl (Nat.le_of_ble_eq_true rfl) ?_
  intro p e s m below meth c A ls C K hN hin hw hl
  obtain ⟨hx, hb, hml, hown, hts, hr, hlk⟩ := id C
  obtain ⟨hK, hX, hA⟩ := id K
  have hl : lv_has ls 1 [(0, .ref a_o)] := hl
  refine lv_aload_n hx hb dX5_init_0 rfl (lv_at hl 0 rfl) ?_
  refine W.objInit hx hb hown (hts _ lk_X5_init_0) (hts _ lk_X5_init_1) (hts _ lk_X5_init_2) rfl (by rw [hml]; exact hl.1) rfl dX5_init_1 (Nat.le_of_ble_eq_true rfl) (Nat.le_of_ble_eq_true rfl) ?_
  refine W.eq (g2 := F0 m 4 ls []) rfl ?_
  refine lv_aload_n hx hb dX5_init_4 rfl (lv_at hl 0 rfl) ?_
  refine lv_bipush (v := (6 : Int32)) hx hb dX5_init_5 (by decide +kernel) ?_
  refine nw_I hx hb (hts _ lk_X5_init_3) K hw 6 (by decide +kernel) (by decide +kernel) (by decide +kernel) (Nat.le_of_ble_eq_true rfl) (Nat.le_of_ble_eq_true rfl) dX5_init_7 (fun q1 H hw => ?_)
  have hw : Wo D A s [(oX5 a_o (.int 0) (.int 0) (.int 0) (.int 0) .null .null .null .null .null .null), (q1, .inl (cI, 6, .inl (fun _ => 0)))] H _ := hw
  refine W.widen (k := 1) (n := 6) (Nat.le_refl _) (Nat.le_refl _) ?_
  refine va_putF (ci := 5) (v := .ref q1) (ty := .array .int) (C := RX5) (T := TX5) (N := 10) hx hb hts in_X5_init_X5 tyX5 tyX5_ok nmX5 hown hK hw.1 hw.2.1 hw.2.2 0 rfl rfl 4 (by decide +kernel) (hts _ lk_X5_init_4) (fun _ h9 => h9) rfl hin rfl (by decide +kernel) rfl rfl (Nat.le_of_ble_eq_true rfl) dX5_init_9 (fun H locs hP hD hS => ?_)
  have hw : Wo D A s [(oX5 a_o (.int 0) (.int 0) (.int 0) (.int 0) (.ref q1) .null .null .null .null .null), (q1, .inl (cI, 6, .inl (fun _ => 0)))] H _ := ⟨hP, hD, hS⟩
  refine lv_aload_n hx hb dX5_init_12 rfl (lv_at hl 0 rfl) ?_
  refine lv_bipush (v := (6 : Int32)) hx hb dX5_init_13 (by decide +kernel) ?_
  refine nw_I hx hb (hts _ lk_X5_init_3) K hw 6 (by decide +kernel) (by decide +kernel) (by decide +kernel) (Nat.le_of_ble_eq_true rfl) (Nat.le_of_ble_eq_true rfl) dX5_init_15 (fun q2 H hw => ?_)
  have hw : Wo D A s [(oX5 a_o (.int 0) (.int 0) (.int 0) (.int 0) (.ref q1) .null .null .null .null .null), (q1, .inl (cI, 6, .inl (fun _ => 0))), (q2, .inl (cI, 6, .inl (fun _ => 0)))] H _ := hw
  refine W.widen (k := 2) (n := 12) (Nat.le_refl _) (Nat.le_refl _) ?_
  refine va_putF (ci := 5) (v := .ref q2) (ty := .array .int) (C := RX5) (T := TX5) (N := 10) hx hb hts in_X5_init_X5 tyX5 tyX5_ok nmX5 hown hK hw.1 hw.2.1 hw.2.2 0 rfl rfl 5 (by decide +kernel) (hts _ lk_X5_init_5) (fun _ h9 => h9) rfl hin rfl (by decide +kernel) rfl rfl (Nat.le_of_ble_eq_true rfl) dX5_init_17 (fun H locs hP hD hS => ?_)
  have hw : Wo D A s [(oX5 a_o (.int 0) (.int 0) (.int 0) (.int 0) (.ref q1) (.ref q2) .null .null .null .null), (q1, .inl (cI, 6, .inl (fun _ => 0))), (q2, .inl (cI, 6, .inl (fun _ => 0)))] H _ := ⟨hP, hD, hS⟩
  refine lv_aload_n hx hb dX5_init_20 rfl (lv_at hl 0 rfl) ?_
  refine lv_bipush (v := (6 : Int32)) hx hb dX5_init_21 (by decide +kernel) ?_
  refine nw_I hx hb (hts _ lk_X5_init_3) K hw 6 (by decide +kernel) (by decide +kernel) (by decide +kernel) (Nat.le_of_ble_eq_true rfl) (Nat.le_of_ble_eq_true rfl) dX5_init_23 (fun q3 H hw => ?_)
  have hw : Wo D A s [(oX5 a_o (.int 0) (.int 0) (.int 0) (.int 0) (.ref q1) (.ref q2) .null .null .null .null), (q1, .inl (cI, 6, .inl (fun _ => 0))), (q2, .inl (cI, 6, .inl (fun _ => 0))), (q3, .inl (cI, 6, .inl (fun _ => 0)))] H _ := hw
  refine W.widen (k := 3) (n := 18) (Nat.le_refl _) (Nat.le_refl _) ?_
  refine va_putF (ci := 5) (v := .ref q3) (ty := .array .int) (C := RX5) (T := TX5) (N := 10) hx hb hts in_X5_init_X5 tyX5 tyX5_ok nmX5 hown hK hw.1 hw.2.1 hw.2.2 0 rfl rfl 6 (by decide +kernel) (hts _ lk_X5_init_6) (fun _ h9 => h9) rfl hin rfl (by decide +kernel) rfl rfl (Nat.le_of_ble_eq_true rfl) dX5_init_25 (fun H locs hP hD hS => ?_)
  have hw : Wo D A s [(oX5 a_o (.int 0) (.int 0) (.int 0) (.int 0) (.ref q1) (.ref q2) (.ref q3) .null .null .null), (q1, .inl (cI, 6, .inl (fun _ => 0))), (q2, .inl (cI, 6, .inl (fun _ => 0))), (q3, .inl (cI, 6, .inl (fun _ => 0)))] H _ := ⟨hP, hD, hS⟩
  refine lv_aload_n hx hb dX5_init_28 rfl (lv_at hl 0 rfl) ?_
  refine lv_bipush (v := (6 : Int32)) hx hb dX5_init_29 (by decide +kernel) ?_
  refine nw_I hx hb (hts _ lk_X5_init_3) K hw 6 (by decide +kernel) (by decide +kernel) (by decide +kernel) (Nat.le_of_ble_eq_true rfl) (Nat.le_of_ble_eq_true rfl) dX5_init_31 (fun q4 H hw => ?_)
  have hw : Wo D A s [(oX5 a_o (.int 0) (.int 0) (.int 0) (.int 0) (.ref q1) (.ref q2) (.ref q3) .null .null .null), (q1, .inl (cI, 6, .inl (fun _ => 0))), (q2, .inl (cI, 6, .inl (fun _ => 0))), (q3, .inl (cI, 6, .inl (fun _ => 0))), (q4, .inl (cI, 6, .inl (fun _ => 0)))] H _ := hw
  refine W.widen (k := 4) (n := 24) (Nat.le_refl _) (Nat.le_refl _) ?_
  refine va_putF (ci := 5) (v := .ref q4) (ty := .array .int) (C := RX5) (T := TX5) (N := 10) hx hb hts in_X5_init_X5 tyX5 tyX5_ok nmX5 hown hK hw.1 hw.2.1 hw.2.2 0 rfl rfl 7 (by decide +kernel) (hts _ lk_X5_init_7) (fun _ h9 => h9) rfl hin rfl (by decide +kernel) rfl rfl (Nat.le_of_ble_eq_true rfl) dX5_init_33 (fun H locs hP hD hS => ?_)
  have hw : Wo D A s [(oX5 a_o (.int 0) (.int 0) (.int 0) (.int 0) (.ref q1) (.ref q2) (.ref q3) (.ref q4) .null .null), (q1, .inl (cI, 6, .inl (fun _ => 0))), (q2, .inl (cI, 6, .inl (fun _ => 0))), (q3, .inl (cI, 6, .inl (fun _ => 0))), (q4, .inl (cI, 6, .inl (fun _ => 0)))] H _ := ⟨hP, hD, hS⟩
  refine lv_aload_n hx hb dX5_init_36 rfl (lv_at hl 0 rfl) ?_
  refine lv_iconst (v := (5 : Int32)) hx hb dX5_init_37 (by decide +kernel) ?_
  refine nw_I hx hb (hts _ lk_X5_init_3) K hw 5 (by decide +kernel) (by decide +kernel) (by decide +kernel) (Nat.le_of_ble_eq_true rfl) (Nat.le_of_ble_eq_true rfl) dX5_init_38 (fun q5 H hw => ?_)
  have hw : Wo D A s [(oX5 a_o (.int 0) (.int 0) (.int 0) (.int 0) (.ref q1) (.ref q2) (.ref q3) (.ref q4) .null .null), (q1, .inl (cI, 6, .inl (fun _ => 0))), (q2, .inl (cI, 6, .inl (fun _ => 0))), (q3, .inl (cI, 6, .inl (fun _ => 0))), (q4, .inl (cI, 6, .inl (fun _ => 0))), (q5, .inl (cI, 5, .inl (fun _ => 0)))] H _ := hw
  refine W.widen (k := 5) (n := 29) (Nat.le_refl _) (Nat.le_refl _) ?_
  refine va_putF (ci := 5) (v := .ref q5) (ty := .array .int) (C := RX5) (T := TX5) (N := 10) hx hb hts in_X5_init_X5 tyX5 tyX5_ok nmX5 hown hK hw.1 hw.2.1 hw.2.2 0 rfl rfl 8 (by decide +kernel) (hts _ lk_X5_init_8) (fun _ h9 => h9) rfl hin rfl (by decide +kernel) rfl rfl (Nat.le_of_ble_eq_true rfl) dX5_init_40 (fun H locs hP hD hS => ?_)
  have hw : Wo D A s [(oX5 a_o (.int 0) (.int 0) (.int 0) (.int 0) (.ref q1) (.ref q2) (.ref q3) (.ref q4) (.ref q5) .null), (q1, .inl (cI, 6, .inl (fun _ => 0))), (q2, .inl (cI, 6, .inl (fun _ => 0))), (q3, .inl (cI, 6, .inl (fun _ => 0))), (q4, .inl (cI, 6, .inl (fun _ => 0))), (q5, .inl (cI, 5, .inl (fun _ => 0)))] H _ := ⟨hP, hD, hS⟩
  refine lv_aload_n hx hb dX5_init_43 rfl (lv_at hl 0 rfl) ?_
  refine lv_iconst (v := (5 : Int32)) hx hb dX5_init_44 (by decide +kernel) ?_
  refine nw_I hx hb (hts _ lk_X5_init_3) K hw 5 (by decide +kernel) (by decide +kernel) (by decide +kernel) (Nat.le_of_ble_eq_true rfl) (Nat.le_of_ble_eq_true rfl) dX5_init_45 (fun q6 H hw => ?_)
  have hw : Wo D A s [(oX5 a_o (.int 0) (.int 0) (.int 0) (.int 0) (.ref q1) (.ref q2) (.ref q3) (.ref q4) (.ref q5) .null), (q1, .inl (cI, 6, .inl (fun _ => 0))), (q2, .inl (cI, 6, .inl (fun _ => 0))), (q3, .inl (cI, 6, .inl (fun _ => 0))), (q4, .inl (cI, 6, .inl (fun _ => 0))), (q5, .inl (cI, 5, .inl (fun _ => 0))), (q6, .inl (cI, 5, .inl (fun _ => 0)))] H _ := hw
  refine W.widen (k := 6) (n := 34) (Nat.le_refl _) (Nat.le_refl _) ?_
  refine va_putF (ci := 5) (v := .ref q6) (ty := .array .int) (C := RX5) (T := TX5) (N := 10) hx hb hts in_X5_init_X5 tyX5 tyX5_ok nmX5 hown hK hw.1 hw.2.1 hw.2.2 0 rfl rfl 9 (by decide +kernel) (hts _ lk_X5_init_9) (fun _ h9 => h9) rfl hin rfl (by decide +kernel) rfl rfl (Nat.le_of_ble_eq_true rfl) dX5_init_47 (fun H locs hP hD hS => ?_)
  have hw : Wo D A s [(oX5 a_o (.int 0) (.int 0) (.int 0) (.int 0) (.ref q1) (.ref q2) (.ref q3) (.ref q4) (.ref q5) (.ref q6)), (q1, .inl (cI, 6, .inl (fun _ => 0))), (q2, .inl (cI, 6, .inl (fun _ => 0))), (q3, .inl (cI, 6, .inl (fun _ => 0))), (q4, .inl (cI, 6, .inl (fun _ => 0))), (q5, .inl (cI, 5, .inl (fun _ => 0))), (q6, .inl (cI, 5, .inl (fun _ => 0)))] H _ := ⟨hP, hD, hS⟩
  exact retN (w1 := fun u => [(oX5 a_o (.int 0) (.int 0) (.int 0) (.int 0) (.ref (u.1 0)) (.ref (u.1 1)) (.ref (u.1 2)) (.ref (u.1 3)) (.ref (u.1 4)) (.ref (u.1 5))), ((u.1 0), .inl (cI, 6, .inl (fun _ => 0))), ((u.1 1), .inl (cI, 6, .inl (fun _ => 0))), ((u.1 2), .inl (cI, 6, .inl (fun _ => 0))), ((u.1 3), .inl (cI, 6, .inl (fun _ => 0))), ((u.1 4), .inl (cI, 5, .inl (fun _ => 0))), ((u.1 5), .inl (cI, 5, .inl (fun _ => 0)))]) C (fun k => ([q1, q2, q3, q4, q5, q6] : List Nat).getD k 0, (fun _ => 0)) hw dX5_init_50
abbrev rmN_X6 : Room := { frames := 2, cells := 8, slots := 48, locals := 32 }
theorem in_X6_init_X5 : ∀ w ∈ u_ws RX5 TX5 10, w ∈ wsX6_init := fun w h => List.mem_cons_of_mem _ (bi_wsX50 w h)
theorem in_X6_init_X6 : ∀ w ∈ u_ws RX6 TX6 4, w ∈ wsX6_init := fun w h => List.mem_cons_of_mem _ (bi_wsX60 w h)
theorem lk_X6_init_0 : Cond.methodLink RX6 3 objectInit ∈ wsX6_init := List.mem_cons_of_mem _ (bi_wsL_law0_r4 _ (List.mem_of_getElem? (i := 1) rfl))
theorem lk_X6_init_1 : Cond.instanceMethod objectInit ∈ wsX6_init := List.mem_cons_of_mem _ (bi_wsL_law0_r1 _ (List.mem_of_getElem? (i := 12) rfl))
theorem lk_X6_init_2 : Cond.code objectInit ⟨#[0xb1]⟩ 1 none ∈ wsX6_init := List.mem_cons_of_mem _ (bi_wsL_law0_r1 _ (List.mem_of_getElem? (i := 13) rfl))
theorem lk_X6_init_3 : Cond.classLink RX6 9 RX5 ∈ wsX6_init := List.mem_cons_of_mem _ (bi_wsL_law0_r4 _ (List.mem_of_getElem? (i := 2) rfl))
theorem lk_X6_init_4 : Cond.instantiable RX5 10 ∈ wsX6_init := List.mem_cons_of_mem _ (bi_wsL_law0_r2 _ (List.mem_of_getElem? (i := 3) rfl))
theorem lk_X6_init_5 : Cond.initialized RX5 ∈ wsX6_init := List.mem_cons_of_mem _ (bi_wsL_law0_r2 _ (List.mem_of_getElem? (i := 4) rfl))
theorem lk_X6_init_6 : Cond.instanceMethod yX5_init ∈ wsX6_init := List.mem_cons_of_mem _ (bi_wsL_law0_r4 _ (List.mem_of_getElem? (i := 6) rfl))
theorem lk_X6_init_7 : Cond.fieldLink RX6 12 "GloveHouses$PeaceReader" "read" "LGloveHouses$Peace;" ∈ wsX6_init := List.mem_cons_of_mem _ (bi_wsL_law0_r4 _ (List.mem_of_getElem? (i := 3) rfl))
theorem lk_X6_init_8 : Cond.arrayClass .int ∈ wsX6_init := List.mem_cons_of_mem _ (bi_wsL_law0_r3 _ (List.mem_of_getElem? (i := 13) rfl))
theorem lk_X6_init_9 : Cond.fieldLink RX6 18 "GloveHouses$PeaceReader" "values" "[I" ∈ wsX6_init := List.mem_cons_of_mem _ (bi_wsL_law0_r4 _ (List.mem_of_getElem? (i := 4) rfl))
theorem lk_X6_init_10 : Cond.fieldLink RX6 22 "GloveHouses$PeaceReader" "tape" "LGloveHouses$Tape;" ∈ wsX6_init := List.mem_cons_of_mem _ (bi_wsL_law0_r4 _ (List.mem_of_getElem? (i := 5) rfl))
set_option maxHeartbeats 4000000 in
set_option maxRecDepth 100000 in
theorem n_X6 {l : Launch} {sx : List sx_T} {D : va_G} {cI cZ cO : ClassId} (a_o : Nat) (a_p1 : Nat) : CtN l yX6_init wsX6_init rmN_X6 sx D (tyL cI cZ cO) nwL [.ref a_o, .ref a_p1] [(oX6 a_o .null .null .null (.int 0))] (fun u => [(oX6 a_o (.ref (u.1 0)) (.ref a_p1) (.ref (u.1 7)) (.int 0)), (oX5 (u.1 0) (.int 0) (.int 0) (.int 0) (.int 0) (.ref (u.1 1)) (.ref (u.1 2)) (.ref (u.1 3)) (.ref (u.1 4)) (.ref (u.1 5)) (.ref (u.1 6))), ((u.1 1), .inl (cI, 6, .inl (fun _ => 0))), ((u.1 2), .inl (cI, 6, .inl (fun _ => 0))), ((u.1 3), .inl (cI, 6, .inl (fun _ => 0))), ((u.1 4), .inl (cI, 6, .inl (fun _ => 0))), ((u.1 5), .inl (cI, 5, .inl (fun _ => 0))), ((u.1 6), .inl (cI, 5, .inl (fun _ => 0))), ((u.1 7), .inl (cI, 4, .inl (fun _ => 0)))]) 8 48 := by
  refine ctN_of (cc := cX6_init) (ret := none) (maxL := 2) (by decide +kernel) rfl (Nat.le_of_ble_eq_true rfl) ?_
  intro p e s m below meth c A ls C K hN hin hw hl
  obtain ⟨hx, hb, hml, hown, hts, hr, hlk⟩ := id C
  obtain ⟨hK, hX, hA⟩ := id K
  have hl : lv_has ls 2 [(0, .ref a_o), (1, .ref a_p1)] := hl
  refine lv_aload_n hx hb dX6_init_0 rfl (lv_at hl 0 rfl) ?_
  refine W.objInit hx hb hown (hts _ lk_X6_init_0) (hts _ lk_X6_init_1) (hts _ lk_X6_init_2) rfl (by rw [hml]; exact hl.1) rfl dX6_init_1 (Nat.le_of_ble_eq_true rfl) (Nat.le_of_ble_eq_true rfl) ?_
  refine W.eq (g2 := F0 m 4 ls []) rfl ?_
  refine lv_aload_n hx hb dX6_init_4 rfl (lv_at hl 0 rfl) ?_
  refine va_new (ci := 5) (fs := [.int 0, .int 0, .int 0, .int 0, .null, .null, .null, .null, .null, .null]) (C := RX5) (T := TX5) (N := 10) hx hb hts in_X6_init_X5 tyX5 tyX5_ok hown (hts _ lk_X6_init_3) (hts _ lk_X6_init_4) (hts _ lk_X6_init_5) hK hw.1 hw.2.1 hw.2.2 hA rfl (fun j hj => by rcases (show j = 0 ∨ j = 1 ∨ j = 2 ∨ j = 3 ∨ j = 4 ∨ j = 5 ∨ j = 6 ∨ j = 7 ∨ j = 8 ∨ j = 9 by omega) with rfl | rfl | rfl | rfl | rfl | rfl | rfl | rfl | rfl | rfl <;> rfl) (Nat.le_of_ble_eq_true rfl) (Nat.le_of_ble_eq_true rfl) dX6_init_5 (fun q1 H hP hD hS => ?_)
  have hw : Wo D A s [(oX6 a_o .null .null .null (.int 0)), (oX5 q1 (.int 0) (.int 0) (.int 0) (.int 0) .null .null .null .null .null .null)] H _ := ⟨hP, hD, hS⟩
  refine W.widen (k := 1) (n := 10) (Nat.le_refl _) (Nat.le_refl _) ?_
  refine lv_dup hx hb dX6_init_8 rfl ?_
  refine cl_IN (As := []) (rest := [.ref q1, .ref a_o]) (wr := [(oX6 a_o .null .null .null (.int 0))]) C K hN hw (n_X5 q1) 1 rfl [0] rfl (by decide +kernel) (by decide +kernel) ⟨va_cnB (host := "GloveHouses") 0 hts gX6_init_X5_init_n11 rfl rfl rfl (by have h9 := hN.2 _ (List.mem_of_getElem? (i := 1) rfl); exact h9) (hts _ lk_X6_init_5) (by decide +kernel) ⟨Nat.le_of_ble_eq_true rfl, Nat.le_of_ble_eq_true rfl⟩, rfl, hts _ lk_X6_init_6⟩ rfl hl rfl (Nat.le_of_ble_eq_true rfl) dX6_init_9 ⟨Nat.le_of_ble_eq_true rfl, Nat.le_of_ble_eq_true rfl⟩ (fun u2 H locs hw => ?_)
  have hw : Wo D A s [(oX6 a_o .null .null .null (.int 0)), (oX5 q1 (.int 0) (.int 0) (.int 0) (.int 0) (.ref (u2.1 0)) (.ref (u2.1 1)) (.ref (u2.1 2)) (.ref (u2.1 3)) (.ref (u2.1 4)) (.ref (u2.1 5))), ((u2.1 0), .inl (cI, 6, .inl (fun _ => 0))), ((u2.1 1), .inl (cI, 6, .inl (fun _ => 0))), ((u2.1 2), .inl (cI, 6, .inl (fun _ => 0))), ((u2.1 3), .inl (cI, 6, .inl (fun _ => 0))), ((u2.1 4), .inl (cI, 5, .inl (fun _ => 0))), ((u2.1 5), .inl (cI, 5, .inl (fun _ => 0)))] H _ := hw
  refine W.widen (k := 7) (n := 44) (Nat.le_refl _) (Nat.le_refl _) ?_
  refine va_putF (ci := 6) (v := .ref q1) (ty := .object "GloveHouses$Peace") (C := RX6) (T := TX6) (N := 4) hx hb hts in_X6_init_X6 tyX6 tyX6_ok nmX6 hown hK hw.1 hw.2.1 hw.2.2 0 rfl rfl 0 (by decide +kernel) (hts _ lk_X6_init_7) (fun _ h9 => h9) rfl hin rfl (by decide +kernel) rfl rfl (Nat.le_of_ble_eq_true rfl) dX6_init_12 (fun H locs hP hD hS => ?_)
  have hw : Wo D A s [(oX6 a_o (.ref q1) .null .null (.int 0)), (oX5 q1 (.int 0) (.int 0) (.int 0) (.int 0) (.ref (u2.1 0)) (.ref (u2.1 1)) (.ref (u2.1 2)) (.ref (u2.1 3)) (.ref (u2.1 4)) (.ref (u2.1 5))), ((u2.1 0), .inl (cI, 6, .inl (fun _ => 0))), ((u2.1 1), .inl (cI, 6, .inl (fun _ => 0))), ((u2.1 2), .inl (cI, 6, .inl (fun _ => 0))), ((u2.1 3), .inl (cI, 6, .inl (fun _ => 0))), ((u2.1 4), .inl (cI, 5, .inl (fun _ => 0))), ((u2.1 5), .inl (cI, 5, .inl (fun _ => 0)))] H _ := ⟨hP, hD, hS⟩
  refine lv_aload_n hx hb dX6_init_15 rfl (lv_at hl 0 rfl) ?_
  refine lv_iconst (v := (4 : Int32)) hx hb dX6_init_16 (by decide +kernel) ?_
  refine nw_I hx hb (hts _ lk_X6_init_8) K hw 4 (by decide +kernel) (by decide +kernel) (by decide +kernel) (Nat.le_of_ble_eq_true rfl) (Nat.le_of_ble_eq_true rfl) dX6_init_17 (fun q3 H hw => ?_)
  have hw : Wo D A s [(oX6 a_o (.ref q1) .null .null (.int 0)), (oX5 q1 (.int 0) (.int 0) (.int 0) (.int 0) (.ref (u2.1 0)) (.ref (u2.1 1)) (.ref (u2.1 2)) (.ref (u2.1 3)) (.ref (u2.1 4)) (.ref (u2.1 5))), ((u2.1 0), .inl (cI, 6, .inl (fun _ => 0))), ((u2.1 1), .inl (cI, 6, .inl (fun _ => 0))), ((u2.1 2), .inl (cI, 6, .inl (fun _ => 0))), ((u2.1 3), .inl (cI, 6, .inl (fun _ => 0))), ((u2.1 4), .inl (cI, 5, .inl (fun _ => 0))), ((u2.1 5), .inl (cI, 5, .inl (fun _ => 0))), (q3, .inl (cI, 4, .inl (fun _ => 0)))] H _ := hw
  refine W.widen (k := 8) (n := 48) (Nat.le_refl _) (Nat.le_refl _) ?_
  refine va_putF (ci := 6) (v := .ref q3) (ty := .array .int) (C := RX6) (T := TX6) (N := 4) hx hb hts in_X6_init_X6 tyX6 tyX6_ok nmX6 hown hK hw.1 hw.2.1 hw.2.2 0 rfl rfl 2 (by decide +kernel) (hts _ lk_X6_init_9) (fun _ h9 => h9) rfl hin rfl (by decide +kernel) rfl rfl (Nat.le_of_ble_eq_true rfl) dX6_init_19 (fun H locs hP hD hS => ?_)
  have hw : Wo D A s [(oX6 a_o (.ref q1) .null (.ref q3) (.int 0)), (oX5 q1 (.int 0) (.int 0) (.int 0) (.int 0) (.ref (u2.1 0)) (.ref (u2.1 1)) (.ref (u2.1 2)) (.ref (u2.1 3)) (.ref (u2.1 4)) (.ref (u2.1 5))), ((u2.1 0), .inl (cI, 6, .inl (fun _ => 0))), ((u2.1 1), .inl (cI, 6, .inl (fun _ => 0))), ((u2.1 2), .inl (cI, 6, .inl (fun _ => 0))), ((u2.1 3), .inl (cI, 6, .inl (fun _ => 0))), ((u2.1 4), .inl (cI, 5, .inl (fun _ => 0))), ((u2.1 5), .inl (cI, 5, .inl (fun _ => 0))), (q3, .inl (cI, 4, .inl (fun _ => 0)))] H _ := ⟨hP, hD, hS⟩
  refine lv_aload_n hx hb dX6_init_22 rfl (lv_at hl 0 rfl) ?_
  refine lv_aload_n hx hb dX6_init_23 rfl (lv_at hl 1 rfl) ?_
  refine va_putF (ci := 6) (v := .ref a_p1) (ty := .object "GloveHouses$Tape") (C := RX6) (T := TX6) (N := 4) hx hb hts in_X6_init_X6 tyX6 tyX6_ok nmX6 hown hK hw.1 hw.2.1 hw.2.2 0 rfl rfl 1 (by decide +kernel) (hts _ lk_X6_init_10) (fun _ h9 => h9) rfl hin rfl (by decide +kernel) rfl rfl (Nat.le_of_ble_eq_true rfl) dX6_init_24 (fun H locs hP hD hS => ?_)
  have hw : Wo D A s [(oX6 a_o (.ref q1) (.ref a_p1) (.ref q3) (.int 0)), (oX5 q1 (.int 0) (.int 0) (.int 0) (.int 0) (.ref (u2.1 0)) (.ref (u2.1 1)) (.ref (u2.1 2)) (.ref (u2.1 3)) (.ref (u2.1 4)) (.ref (u2.1 5))), ((u2.1 0), .inl (cI, 6, .inl (fun _ => 0))), ((u2.1 1), .inl (cI, 6, .inl (fun _ => 0))), ((u2.1 2), .inl (cI, 6, .inl (fun _ => 0))), ((u2.1 3), .inl (cI, 6, .inl (fun _ => 0))), ((u2.1 4), .inl (cI, 5, .inl (fun _ => 0))), ((u2.1 5), .inl (cI, 5, .inl (fun _ => 0))), (q3, .inl (cI, 4, .inl (fun _ => 0)))] H _ := ⟨hP, hD, hS⟩
  exact retN (w1 := fun u => [(oX6 a_o (.ref (u.1 0)) (.ref a_p1) (.ref (u.1 7)) (.int 0)), (oX5 (u.1 0) (.int 0) (.int 0) (.int 0) (.int 0) (.ref (u.1 1)) (.ref (u.1 2)) (.ref (u.1 3)) (.ref (u.1 4)) (.ref (u.1 5)) (.ref (u.1 6))), ((u.1 1), .inl (cI, 6, .inl (fun _ => 0))), ((u.1 2), .inl (cI, 6, .inl (fun _ => 0))), ((u.1 3), .inl (cI, 6, .inl (fun _ => 0))), ((u.1 4), .inl (cI, 6, .inl (fun _ => 0))), ((u.1 5), .inl (cI, 5, .inl (fun _ => 0))), ((u.1 6), .inl (cI, 5, .inl (fun _ => 0))), ((u.1 7), .inl (cI, 4, .inl (fun _ => 0)))]) C (fun k => ([q1, (u2.1 0), (u2.1 1), (u2.1 2), (u2.1 3), (u2.1 4), (u2.1 5), q3] : List Nat).getD k 0, (fun _ => 0)) hw dX6_init_27
abbrev rmN_X1 : Room := { frames := 1, cells := 1, slots := 241, locals := 12 }
theorem in_X1_init_X1 : ∀ w ∈ u_ws RX1 TX1 3, w ∈ wsX1_init := fun w h => List.mem_cons_of_mem _ (bi_wsX10 w h)
theorem lk_X1_init_0 : Cond.methodLink RX1 3 objectInit ∈ wsX1_init := List.mem_cons_of_mem _ (bi_wsL_law0_r4 _ (List.mem_of_getElem? (i := 18) rfl))
theorem lk_X1_init_1 : Cond.instanceMethod objectInit ∈ wsX1_init := List.mem_cons_of_mem _ (bi_wsL_law0_r1 _ (List.mem_of_getElem? (i := 12) rfl))
theorem lk_X1_init_2 : Cond.code objectInit ⟨#[0xb1]⟩ 1 none ∈ wsX1_init := List.mem_cons_of_mem _ (bi_wsL_law0_r1 _ (List.mem_of_getElem? (i := 13) rfl))
theorem lk_X1_init_3 : Cond.arrayClass .int ∈ wsX1_init := List.mem_cons_of_mem _ (bi_wsL_law0_r3 _ (List.mem_of_getElem? (i := 13) rfl))
theorem lk_X1_init_4 : Cond.fieldLink RX1 11 "GloveHouses$LawReader" "code" "[I" ∈ wsX1_init := List.mem_cons_of_mem _ (bi_wsL_law0_r4 _ (List.mem_of_getElem? (i := 19) rfl))
theorem lk_X1_init_5 : Cond.fieldLink RX1 17 "GloveHouses$LawReader" "tape" "LGloveHouses$Tape;" ∈ wsX1_init := List.mem_cons_of_mem _ (bi_wsL_law0_r4 _ (List.mem_of_getElem? (i := 20) rfl))
set_option maxHeartbeats 4000000 in
set_option maxRecDepth 100000 in
theorem n_X1 {l : Launch} {sx : List sx_T} {D : va_G} {cI cZ cO : ClassId} (a_o : Nat) (a_p1 : Nat) : CtN l yX1_init wsX1_init rmN_X1 sx D (tyL cI cZ cO) nwL [.ref a_o, .ref a_p1] [(oX1 a_o .null (.int 0) .null)] (fun u => [(oX1 a_o (.ref (u.1 0)) (.int 0) (.ref a_p1)), ((u.1 0), .inl (cI, 241, .inl (fun _ => 0)))]) 1 241 := by
  refine ctN_of (cc := cX1_init) (ret := none) (maxL := 2) (by decide +kernel) rfl (Nat.le_of_ble_eq_true rfl) ?_
  intro p e s m below meth c A ls C K hN hin hw hl
  obtain ⟨hx, hb, hml, hown, hts, hr, hlk⟩ := id C
  obtain ⟨hK, hX, hA⟩ := id K
  have hl : lv_has ls 2 [(0, .ref a_o), (1, .ref a_p1)] := hl
  refine lv_aload_n hx hb dX1_init_0 rfl (lv_at hl 0 rfl) ?_
  refine W.objInit hx hb hown (hts _ lk_X1_init_0) (hts _ lk_X1_init_1) (hts _ lk_X1_init_2) rfl (by rw [hml]; exact hl.1) rfl dX1_init_1 (Nat.le_of_ble_eq_true rfl) (Nat.le_of_ble_eq_true rfl) ?_
  refine W.eq (g2 := F0 m 4 ls []) rfl ?_
  refine lv_aload_n hx hb dX1_init_4 rfl (lv_at hl 0 rfl) ?_
  refine lv_sipush (v := (241 : Int32)) hx hb dX1_init_5 (by decide +kernel) ?_
  refine nw_I hx hb (hts _ lk_X1_init_3) K hw 241 (by decide +kernel) (by decide +kernel) (by decide +kernel) (Nat.le_of_ble_eq_true rfl) (Nat.le_of_ble_eq_true rfl) dX1_init_8 (fun q1 H hw => ?_)
  have hw : Wo D A s [(oX1 a_o .null (.int 0) .null), (q1, .inl (cI, 241, .inl (fun _ => 0)))] H _ := hw
  refine W.widen (k := 1) (n := 241) (Nat.le_refl _) (Nat.le_refl _) ?_
  refine va_putF (ci := 1) (v := .ref q1) (ty := .array .int) (C := RX1) (T := TX1) (N := 3) hx hb hts in_X1_init_X1 tyX1 tyX1_ok nmX1 hown hK hw.1 hw.2.1 hw.2.2 0 rfl rfl 0 (by decide +kernel) (hts _ lk_X1_init_4) (fun _ h9 => h9) rfl hin rfl (by decide +kernel) rfl rfl (Nat.le_of_ble_eq_true rfl) dX1_init_10 (fun H locs hP hD hS => ?_)
  have hw : Wo D A s [(oX1 a_o (.ref q1) (.int 0) .null), (q1, .inl (cI, 241, .inl (fun _ => 0)))] H _ := ⟨hP, hD, hS⟩
  refine lv_aload_n hx hb dX1_init_13 rfl (lv_at hl 0 rfl) ?_
  refine lv_aload_n hx hb dX1_init_14 rfl (lv_at hl 1 rfl) ?_
  refine va_putF (ci := 1) (v := .ref a_p1) (ty := .object "GloveHouses$Tape") (C := RX1) (T := TX1) (N := 3) hx hb hts in_X1_init_X1 tyX1 tyX1_ok nmX1 hown hK hw.1 hw.2.1 hw.2.2 0 rfl rfl 2 (by decide +kernel) (hts _ lk_X1_init_5) (fun _ h9 => h9) rfl hin rfl (by decide +kernel) rfl rfl (Nat.le_of_ble_eq_true rfl) dX1_init_15 (fun H locs hP hD hS => ?_)
  have hw : Wo D A s [(oX1 a_o (.ref q1) (.int 0) (.ref a_p1)), (q1, .inl (cI, 241, .inl (fun _ => 0)))] H _ := ⟨hP, hD, hS⟩
  exact retN (w1 := fun u => [(oX1 a_o (.ref (u.1 0)) (.int 0) (.ref a_p1)), ((u.1 0), .inl (cI, 241, .inl (fun _ => 0)))]) C (fun k => ([q1] : List Nat).getD k 0, (fun _ => 0)) hw dX1_init_18
abbrev rmN_X2 : Room := { frames := 1, cells := 8, slots := 1219, locals := 12 }
theorem in_X2_init_X2 : ∀ w ∈ u_ws RX2 TX2 6, w ∈ wsX2_init := fun w h => List.mem_cons_of_mem _ (bi_wsX20 w h)
theorem lk_X2_init_0 : Cond.methodLink RX2 3 objectInit ∈ wsX2_init := List.mem_cons_of_mem _ (bi_wsL_law0_r4 _ (List.mem_of_getElem? (i := 23) rfl))
theorem lk_X2_init_1 : Cond.instanceMethod objectInit ∈ wsX2_init := List.mem_cons_of_mem _ (bi_wsL_law0_r1 _ (List.mem_of_getElem? (i := 12) rfl))
theorem lk_X2_init_2 : Cond.code objectInit ⟨#[0xb1]⟩ 1 none ∈ wsX2_init := List.mem_cons_of_mem _ (bi_wsL_law0_r1 _ (List.mem_of_getElem? (i := 13) rfl))
theorem lk_X2_init_3 : Cond.fieldLink RX2 9 "GloveHouses$Laws" "holds" "I" ∈ wsX2_init := List.mem_cons_of_mem _ (bi_wsL_law0_r5 _ (List.mem_of_getElem? (i := 0) rfl))
theorem lk_X2_init_4 : Cond.classLink RX2 15 "[[I" ∈ wsX2_init := List.mem_cons_of_mem _ (bi_wsL_law0_r5 _ (List.mem_of_getElem? (i := 1) rfl))
theorem lk_X2_init_5 : Cond.arrayClass .int ∈ wsX2_init := List.mem_cons_of_mem _ (bi_wsL_law0_r3 _ (List.mem_of_getElem? (i := 13) rfl))
theorem lk_X2_init_6 : Cond.fieldLink RX2 17 "GloveHouses$Laws" "codes" "[[I" ∈ wsX2_init := List.mem_cons_of_mem _ (bi_wsL_law0_r5 _ (List.mem_of_getElem? (i := 2) rfl))
theorem lk_X2_init_7 : Cond.fieldLink RX2 20 "GloveHouses$Laws" "lengths" "[I" ∈ wsX2_init := List.mem_cons_of_mem _ (bi_wsL_law0_r5 _ (List.mem_of_getElem? (i := 3) rfl))
theorem lk_X2_init_8 : Cond.fieldLink RX2 24 "GloveHouses$Laws" "LETTERS" "[C" ∈ wsX2_init := List.mem_cons_of_mem _ (bi_wsL_law0_r5 _ (List.mem_of_getElem? (i := 4) rfl))
theorem lk_X2_init_9 : Cond.fieldLink RX2 28 "GloveHouses$Laws" "letters" "[I" ∈ wsX2_init := List.mem_cons_of_mem _ (bi_wsL_law0_r5 _ (List.mem_of_getElem? (i := 5) rfl))
theorem lk_X2_init_10 : Cond.fieldLink RX2 31 "GloveHouses$Laws" "stack" "[I" ∈ wsX2_init := List.mem_cons_of_mem _ (bi_wsL_law0_r5 _ (List.mem_of_getElem? (i := 6) rfl))
set_option maxHeartbeats 4000000 in
set_option maxRecDepth 100000 in
theorem n_X2 {l : Launch} {sx : List sx_T} {D : va_G} {cI cZ cO : ClassId} (a_o : Nat) (b_llT : Nat) (llT : Nat → Int32) (hs_llT : (("GloveHouses$Laws", "LETTERS", "[C", b_llT, .char, 6, llT) : sx_T) ∈ sx) : CtN l yX2_init wsX2_init rmN_X2 sx D (tyL cI cZ cO) nwL [.ref a_o] [(oX2 a_o (.int 0) (.int 0) .null .null .null .null)] (fun u => [(oX2 a_o (.int 0) (.int (-1 : Int32)) (.ref (u.1 0)) (.ref (u.1 1)) (.ref (u.1 2)) (.ref (u.1 3))), ((u.1 0), .inl (cO, 4, .inr (.inr (.inr (.inr (rwF u.2)))))), ((u.2 0), .inl (cI, 241, .inl (fun _ => 0))), ((u.2 1), .inl (cI, 241, .inl (fun _ => 0))), ((u.2 2), .inl (cI, 241, .inl (fun _ => 0))), ((u.2 3), .inl (cI, 241, .inl (fun _ => 0))), ((u.1 1), .inl (cI, 4, .inl (fun _ => 0))), ((u.1 2), .inl (cI, 6, .inl (fun _ => 0))), ((u.1 3), .inl (cI, 241, .inl (fun _ => 0)))]) 8 1219 := by
  refine ctN_of (cc := cX2_init) (ret := none) (maxL := 1) (by decide +kernel) rfl (Nat.le_of_ble_eq_true rfl) ?_
  intro p e s m below meth c A ls C K hN hin hw hl
  obtain ⟨hx, hb, hml, hown, hts, hr, hlk⟩ := id C
  obtain ⟨hK, hX, hA⟩ := id K
  have hl : lv_has ls 1 [(0, .ref a_o)] := hl
  refine lv_aload_n hx hb dX2_init_0 rfl (lv_at hl 0 rfl) ?_
  refine W.objInit hx hb hown (hts _ lk_X2_init_0) (hts _ lk_X2_init_1) (hts _ lk_X2_init_2) rfl (by rw [hml]; exact hl.1) rfl dX2_init_1 (Nat.le_of_ble_eq_true rfl) (Nat.le_of_ble_eq_true rfl) ?_
  refine W.eq (g2 := F0 m 4 ls []) rfl ?_
  refine lv_aload_n hx hb dX2_init_4 rfl (lv_at hl 0 rfl) ?_
  refine lv_iconst (v := (-1 : Int32)) hx hb dX2_init_5 (by decide +kernel) ?_
  refine va_put (ci := 2) (v := .int (-1 : Int32)) (ty := .int) (C := RX2) (T := TX2) (N := 6) hx hb hts in_X2_init_X2 tyX2 tyX2_ok nmX2 hown hK hw.1 hw.2.1 hw.2.2 0 rfl rfl 1 (by decide +kernel) (hts _ lk_X2_init_3) (fun _ h9 => h9) rfl (by decide +kernel) rfl rfl (Nat.le_of_ble_eq_true rfl) dX2_init_6 (fun H locs hP hD hS => ?_)
  have hw : Wo D A s [(oX2 a_o (.int 0) (.int (-1 : Int32)) .null .null .null .null)] H _ := ⟨hP, hD, hS⟩
  refine lv_aload_n hx hb dX2_init_9 rfl (lv_at hl 0 rfl) ?_
  refine lv_iconst (v := (4 : Int32)) hx hb dX2_init_10 (by decide +kernel) ?_
  refine lv_sipush (v := (241 : Int32)) hx hb dX2_init_11 (by decide +kernel) ?_
  refine nw_G hx hb hown (hts _ lk_X2_init_4) hN.1 (hts _ lk_X2_init_5) K hw (by decide +kernel) (by decide +kernel) (by decide +kernel) (by decide +kernel) (Nat.le_of_ble_eq_true rfl) (Nat.le_of_ble_eq_true rfl) dX2_init_14 (fun q1 rw H hw => ?_)
  have hw : Wo D A s [(oX2 a_o (.int 0) (.int (-1 : Int32)) .null .null .null .null), (q1, .inl (cO, 4, .inr (.inr (.inr (.inr (rwF rw)))))), ((rw 0), .inl (cI, 241, .inl (fun _ => 0))), ((rw 1), .inl (cI, 241, .inl (fun _ => 0))), ((rw 2), .inl (cI, 241, .inl (fun _ => 0))), ((rw 3), .inl (cI, 241, .inl (fun _ => 0)))] H _ := hw
  refine W.widen (k := 5) (n := 968) (Nat.le_refl _) (Nat.le_refl _) ?_
  refine va_putF (ci := 2) (v := .ref q1) (ty := .array (.array .int)) (C := RX2) (T := TX2) (N := 6) hx hb hts in_X2_init_X2 tyX2 tyX2_ok nmX2 hown hK hw.1 hw.2.1 hw.2.2 0 rfl rfl 2 (by decide +kernel) (hts _ lk_X2_init_6) (fun _ h9 => h9) rfl hin rfl (by decide +kernel) rfl rfl (Nat.le_of_ble_eq_true rfl) dX2_init_18 (fun H locs hP hD hS => ?_)
  have hw : Wo D A s [(oX2 a_o (.int 0) (.int (-1 : Int32)) (.ref q1) .null .null .null), (q1, .inl (cO, 4, .inr (.inr (.inr (.inr (rwF rw)))))), ((rw 0), .inl (cI, 241, .inl (fun _ => 0))), ((rw 1), .inl (cI, 241, .inl (fun _ => 0))), ((rw 2), .inl (cI, 241, .inl (fun _ => 0))), ((rw 3), .inl (cI, 241, .inl (fun _ => 0)))] H _ := ⟨hP, hD, hS⟩
  refine lv_aload_n hx hb dX2_init_21 rfl (lv_at hl 0 rfl) ?_
  refine lv_iconst (v := (4 : Int32)) hx hb dX2_init_22 (by decide +kernel) ?_
  refine nw_I hx hb (hts _ lk_X2_init_5) K hw 4 (by decide +kernel) (by decide +kernel) (by decide +kernel) (Nat.le_of_ble_eq_true rfl) (Nat.le_of_ble_eq_true rfl) dX2_init_23 (fun q2 H hw => ?_)
  have hw : Wo D A s [(oX2 a_o (.int 0) (.int (-1 : Int32)) (.ref q1) .null .null .null), (q1, .inl (cO, 4, .inr (.inr (.inr (.inr (rwF rw)))))), ((rw 0), .inl (cI, 241, .inl (fun _ => 0))), ((rw 1), .inl (cI, 241, .inl (fun _ => 0))), ((rw 2), .inl (cI, 241, .inl (fun _ => 0))), ((rw 3), .inl (cI, 241, .inl (fun _ => 0))), (q2, .inl (cI, 4, .inl (fun _ => 0)))] H _ := hw
  refine W.widen (k := 6) (n := 972) (Nat.le_refl _) (Nat.le_refl _) ?_
  refine va_putF (ci := 2) (v := .ref q2) (ty := .array .int) (C := RX2) (T := TX2) (N := 6) hx hb hts in_X2_init_X2 tyX2 tyX2_ok nmX2 hown hK hw.1 hw.2.1 hw.2.2 0 rfl rfl 3 (by decide +kernel) (hts _ lk_X2_init_7) (fun _ h9 => h9) rfl hin rfl (by decide +kernel) rfl rfl (Nat.le_of_ble_eq_true rfl) dX2_init_25 (fun H locs hP hD hS => ?_)
  have hw : Wo D A s [(oX2 a_o (.int 0) (.int (-1 : Int32)) (.ref q1) (.ref q2) .null .null), (q1, .inl (cO, 4, .inr (.inr (.inr (.inr (rwF rw)))))), ((rw 0), .inl (cI, 241, .inl (fun _ => 0))), ((rw 1), .inl (cI, 241, .inl (fun _ => 0))), ((rw 2), .inl (cI, 241, .inl (fun _ => 0))), ((rw 3), .inl (cI, 241, .inl (fun _ => 0))), (q2, .inl (cI, 4, .inl (fun _ => 0)))] H _ := ⟨hP, hD, hS⟩
  refine lv_aload_n hx hb dX2_init_28 rfl (lv_at hl 0 rfl) ?_
  refine va_gets (v := .ref b_llT) hx hb (hX _ hs_llT).1 hw.2.2 hown (hts _ lk_X2_init_8) (fun _ h9 => h9) dX2_init_29 ?_
  refine sx_len (v := (6 : Int32)) hx hb (hX _ hs_llT).2.1 (hX _ hs_llT).2.2 hw.2.2 rfl dX2_init_32 ?_
  refine nw_I hx hb (hts _ lk_X2_init_5) K hw 6 (by decide +kernel) (by decide +kernel) (by decide +kernel) (Nat.le_of_ble_eq_true rfl) (Nat.le_of_ble_eq_true rfl) dX2_init_33 (fun q3 H hw => ?_)
  have hw : Wo D A s [(oX2 a_o (.int 0) (.int (-1 : Int32)) (.ref q1) (.ref q2) .null .null), (q1, .inl (cO, 4, .inr (.inr (.inr (.inr (rwF rw)))))), ((rw 0), .inl (cI, 241, .inl (fun _ => 0))), ((rw 1), .inl (cI, 241, .inl (fun _ => 0))), ((rw 2), .inl (cI, 241, .inl (fun _ => 0))), ((rw 3), .inl (cI, 241, .inl (fun _ => 0))), (q2, .inl (cI, 4, .inl (fun _ => 0))), (q3, .inl (cI, 6, .inl (fun _ => 0)))] H _ := hw
  refine W.widen (k := 7) (n := 978) (Nat.le_refl _) (Nat.le_refl _) ?_
  refine va_putF (ci := 2) (v := .ref q3) (ty := .array .int) (C := RX2) (T := TX2) (N := 6) hx hb hts in_X2_init_X2 tyX2 tyX2_ok nmX2 hown hK hw.1 hw.2.1 hw.2.2 0 rfl rfl 4 (by decide +kernel) (hts _ lk_X2_init_9) (fun _ h9 => h9) rfl hin rfl (by decide +kernel) rfl rfl (Nat.le_of_ble_eq_true rfl) dX2_init_35 (fun H locs hP hD hS => ?_)
  have hw : Wo D A s [(oX2 a_o (.int 0) (.int (-1 : Int32)) (.ref q1) (.ref q2) (.ref q3) .null), (q1, .inl (cO, 4, .inr (.inr (.inr (.inr (rwF rw)))))), ((rw 0), .inl (cI, 241, .inl (fun _ => 0))), ((rw 1), .inl (cI, 241, .inl (fun _ => 0))), ((rw 2), .inl (cI, 241, .inl (fun _ => 0))), ((rw 3), .inl (cI, 241, .inl (fun _ => 0))), (q2, .inl (cI, 4, .inl (fun _ => 0))), (q3, .inl (cI, 6, .inl (fun _ => 0)))] H _ := ⟨hP, hD, hS⟩
  refine lv_aload_n hx hb dX2_init_38 rfl (lv_at hl 0 rfl) ?_
  refine lv_sipush (v := (241 : Int32)) hx hb dX2_init_39 (by decide +kernel) ?_
  refine nw_I hx hb (hts _ lk_X2_init_5) K hw 241 (by decide +kernel) (by decide +kernel) (by decide +kernel) (Nat.le_of_ble_eq_true rfl) (Nat.le_of_ble_eq_true rfl) dX2_init_42 (fun q4 H hw => ?_)
  have hw : Wo D A s [(oX2 a_o (.int 0) (.int (-1 : Int32)) (.ref q1) (.ref q2) (.ref q3) .null), (q1, .inl (cO, 4, .inr (.inr (.inr (.inr (rwF rw)))))), ((rw 0), .inl (cI, 241, .inl (fun _ => 0))), ((rw 1), .inl (cI, 241, .inl (fun _ => 0))), ((rw 2), .inl (cI, 241, .inl (fun _ => 0))), ((rw 3), .inl (cI, 241, .inl (fun _ => 0))), (q2, .inl (cI, 4, .inl (fun _ => 0))), (q3, .inl (cI, 6, .inl (fun _ => 0))), (q4, .inl (cI, 241, .inl (fun _ => 0)))] H _ := hw
  refine W.widen (k := 8) (n := 1219) (Nat.le_refl _) (Nat.le_refl _) ?_
  refine va_putF (ci := 2) (v := .ref q4) (ty := .array .int) (C := RX2) (T := TX2) (N := 6) hx hb hts in_X2_init_X2 tyX2 tyX2_ok nmX2 hown hK hw.1 hw.2.1 hw.2.2 0 rfl rfl 5 (by decide +kernel) (hts _ lk_X2_init_10) (fun _ h9 => h9) rfl hin rfl (by decide +kernel) rfl rfl (Nat.le_of_ble_eq_true rfl) dX2_init_44 (fun H locs hP hD hS => ?_)
  have hw : Wo D A s [(oX2 a_o (.int 0) (.int (-1 : Int32)) (.ref q1) (.ref q2) (.ref q3) (.ref q4)), (q1, .inl (cO, 4, .inr (.inr (.inr (.inr (rwF rw)))))), ((rw 0), .inl (cI, 241, .inl (fun _ => 0))), ((rw 1), .inl (cI, 241, .inl (fun _ => 0))), ((rw 2), .inl (cI, 241, .inl (fun _ => 0))), ((rw 3), .inl (cI, 241, .inl (fun _ => 0))), (q2, .inl (cI, 4, .inl (fun _ => 0))), (q3, .inl (cI, 6, .inl (fun _ => 0))), (q4, .inl (cI, 241, .inl (fun _ => 0)))] H _ := ⟨hP, hD, hS⟩
  exact retN (w1 := fun u => [(oX2 a_o (.int 0) (.int (-1 : Int32)) (.ref (u.1 0)) (.ref (u.1 1)) (.ref (u.1 2)) (.ref (u.1 3))), ((u.1 0), .inl (cO, 4, .inr (.inr (.inr (.inr (rwF u.2)))))), ((u.2 0), .inl (cI, 241, .inl (fun _ => 0))), ((u.2 1), .inl (cI, 241, .inl (fun _ => 0))), ((u.2 2), .inl (cI, 241, .inl (fun _ => 0))), ((u.2 3), .inl (cI, 241, .inl (fun _ => 0))), ((u.1 1), .inl (cI, 4, .inl (fun _ => 0))), ((u.1 2), .inl (cI, 6, .inl (fun _ => 0))), ((u.1 3), .inl (cI, 241, .inl (fun _ => 0)))]) C (fun k => ([q1, q2, q3, q4] : List Nat).getD k 0, rw) hw dX2_init_47
abbrev rmN_X9 : Room := { frames := 1, cells := 1, slots := 69, locals := 12 }
theorem in_X9_init_X9 : ∀ w ∈ u_ws RX9 TX9 3, w ∈ wsX9_init := fun w h => List.mem_cons_of_mem _ (bi_wsX90 w h)
theorem lk_X9_init_0 : Cond.methodLink RX9 3 objectInit ∈ wsX9_init := List.mem_cons_of_mem _ (bi_wsL_law0_r5 _ (List.mem_of_getElem? (i := 10) rfl))
theorem lk_X9_init_1 : Cond.instanceMethod objectInit ∈ wsX9_init := List.mem_cons_of_mem _ (bi_wsL_law0_r1 _ (List.mem_of_getElem? (i := 12) rfl))
theorem lk_X9_init_2 : Cond.code objectInit ⟨#[0xb1]⟩ 1 none ∈ wsX9_init := List.mem_cons_of_mem _ (bi_wsL_law0_r1 _ (List.mem_of_getElem? (i := 13) rfl))
theorem lk_X9_init_3 : Cond.arrayClass .int ∈ wsX9_init := List.mem_cons_of_mem _ (bi_wsL_law0_r3 _ (List.mem_of_getElem? (i := 13) rfl))
theorem lk_X9_init_4 : Cond.fieldLink RX9 11 "GloveHouses$State" "cells" "[I" ∈ wsX9_init := List.mem_cons_of_mem _ (bi_wsL_law0_r5 _ (List.mem_of_getElem? (i := 11) rfl))
theorem lk_X9_init_5 : Cond.fieldLink RX9 15 "GloveHouses$State" "told" "LGloveHouses$Peace;" ∈ wsX9_init := List.mem_cons_of_mem _ (bi_wsL_law0_r5 _ (List.mem_of_getElem? (i := 12) rfl))
theorem lk_X9_init_6 : Cond.fieldLink RX9 19 "GloveHouses$State" "laws" "LGloveHouses$Laws;" ∈ wsX9_init := List.mem_cons_of_mem _ (bi_wsL_law0_r5 _ (List.mem_of_getElem? (i := 13) rfl))
set_option maxHeartbeats 4000000 in
set_option maxRecDepth 100000 in
theorem n_X9 {l : Launch} {sx : List sx_T} {D : va_G} {cI cZ cO : ClassId} (a_o : Nat) (a_p1 : Nat) (a_p2 : Nat) : CtN l yX9_init wsX9_init rmN_X9 sx D (tyL cI cZ cO) nwL [.ref a_o, .ref a_p1, .ref a_p2] [(oX9 a_o .null .null .null)] (fun u => [(oX9 a_o (.ref (u.1 0)) (.ref a_p1) (.ref a_p2)), ((u.1 0), .inl (cI, 69, .inl (fun _ => 0)))]) 1 69 := by
  refine ctN_of (cc := cX9_init) (ret := none) (maxL := 3) (by decide +kernel) rfl (Nat.le_of_ble_eq_true rfl) ?_
  intro p e s m below meth c A ls C K hN hin hw hl
  obtain ⟨hx, hb, hml, hown, hts, hr, hlk⟩ := id C
  obtain ⟨hK, hX, hA⟩ := id K
  have hl : lv_has ls 3 [(0, .ref a_o), (1, .ref a_p1), (2, .ref a_p2)] := hl
  refine lv_aload_n hx hb dX9_init_0 rfl (lv_at hl 0 rfl) ?_
  refine W.objInit hx hb hown (hts _ lk_X9_init_0) (hts _ lk_X9_init_1) (hts _ lk_X9_init_2) rfl (by rw [hml]; exact hl.1) rfl dX9_init_1 (Nat.le_of_ble_eq_true rfl) (Nat.le_of_ble_eq_true rfl) ?_
  refine W.eq (g2 := F0 m 4 ls []) rfl ?_
  refine lv_aload_n hx hb dX9_init_4 rfl (lv_at hl 0 rfl) ?_
  refine lv_bipush (v := (69 : Int32)) hx hb dX9_init_5 (by decide +kernel) ?_
  refine nw_I hx hb (hts _ lk_X9_init_3) K hw 69 (by decide +kernel) (by decide +kernel) (by decide +kernel) (Nat.le_of_ble_eq_true rfl) (Nat.le_of_ble_eq_true rfl) dX9_init_7 (fun q1 H hw => ?_)
  have hw : Wo D A s [(oX9 a_o .null .null .null), (q1, .inl (cI, 69, .inl (fun _ => 0)))] H _ := hw
  refine W.widen (k := 1) (n := 69) (Nat.le_refl _) (Nat.le_refl _) ?_
  refine va_putF (ci := 9) (v := .ref q1) (ty := .array .int) (C := RX9) (T := TX9) (N := 3) hx hb hts in_X9_init_X9 tyX9 tyX9_ok nmX9 hown hK hw.1 hw.2.1 hw.2.2 0 rfl rfl 0 (by decide +kernel) (hts _ lk_X9_init_4) (fun _ h9 => h9) rfl hin rfl (by decide +kernel) rfl rfl (Nat.le_of_ble_eq_true rfl) dX9_init_9 (fun H locs hP hD hS => ?_)
  have hw : Wo D A s [(oX9 a_o (.ref q1) .null .null), (q1, .inl (cI, 69, .inl (fun _ => 0)))] H _ := ⟨hP, hD, hS⟩
  refine lv_aload_n hx hb dX9_init_12 rfl (lv_at hl 0 rfl) ?_
  refine lv_aload_n hx hb dX9_init_13 rfl (lv_at hl 1 rfl) ?_
  refine va_putF (ci := 9) (v := .ref a_p1) (ty := .object "GloveHouses$Peace") (C := RX9) (T := TX9) (N := 3) hx hb hts in_X9_init_X9 tyX9 tyX9_ok nmX9 hown hK hw.1 hw.2.1 hw.2.2 0 rfl rfl 1 (by decide +kernel) (hts _ lk_X9_init_5) (fun _ h9 => h9) rfl hin rfl (by decide +kernel) rfl rfl (Nat.le_of_ble_eq_true rfl) dX9_init_14 (fun H locs hP hD hS => ?_)
  have hw : Wo D A s [(oX9 a_o (.ref q1) (.ref a_p1) .null), (q1, .inl (cI, 69, .inl (fun _ => 0)))] H _ := ⟨hP, hD, hS⟩
  refine lv_aload_n hx hb dX9_init_17 rfl (lv_at hl 0 rfl) ?_
  refine lv_aload_n hx hb dX9_init_18 rfl (lv_at hl 2 rfl) ?_
  refine va_putF (ci := 9) (v := .ref a_p2) (ty := .object "GloveHouses$Laws") (C := RX9) (T := TX9) (N := 3) hx hb hts in_X9_init_X9 tyX9 tyX9_ok nmX9 hown hK hw.1 hw.2.1 hw.2.2 0 rfl rfl 2 (by decide +kernel) (hts _ lk_X9_init_6) (fun _ h9 => h9) rfl hin rfl (by decide +kernel) rfl rfl (Nat.le_of_ble_eq_true rfl) dX9_init_19 (fun H locs hP hD hS => ?_)
  have hw : Wo D A s [(oX9 a_o (.ref q1) (.ref a_p1) (.ref a_p2)), (q1, .inl (cI, 69, .inl (fun _ => 0)))] H _ := ⟨hP, hD, hS⟩
  exact retN (w1 := fun u => [(oX9 a_o (.ref (u.1 0)) (.ref a_p1) (.ref a_p2)), ((u.1 0), .inl (cI, 69, .inl (fun _ => 0)))]) C (fun k => ([q1] : List Nat).getD k 0, (fun _ => 0)) hw dX9_init_22
abbrev rmN_X3 : Room := { frames := 1, cells := 1, slots := 384, locals := 12 }
theorem in_X3_init_X3 : ∀ w ∈ u_ws RX3 TX3 1, w ∈ wsX3_init := fun w h => List.mem_cons_of_mem _ (bi_wsX30 w h)
theorem lk_X3_init_0 : Cond.methodLink RX3 1 objectInit ∈ wsX3_init := List.mem_cons_of_mem _ (bi_wsL_law0_r5 _ (List.mem_of_getElem? (i := 16) rfl))
theorem lk_X3_init_1 : Cond.instanceMethod objectInit ∈ wsX3_init := List.mem_cons_of_mem _ (bi_wsL_law0_r1 _ (List.mem_of_getElem? (i := 12) rfl))
theorem lk_X3_init_2 : Cond.code objectInit ⟨#[0xb1]⟩ 1 none ∈ wsX3_init := List.mem_cons_of_mem _ (bi_wsL_law0_r1 _ (List.mem_of_getElem? (i := 13) rfl))
theorem lk_X3_init_3 : Cond.arrayClass .int ∈ wsX3_init := List.mem_cons_of_mem _ (bi_wsL_law0_r3 _ (List.mem_of_getElem? (i := 13) rfl))
theorem lk_X3_init_4 : Cond.fieldLink RX3 9 "GloveHouses$LogBook" "rows" "[I" ∈ wsX3_init := List.mem_cons_of_mem _ (bi_wsL_law0_r5 _ (List.mem_of_getElem? (i := 17) rfl))
set_option maxHeartbeats 4000000 in
set_option maxRecDepth 100000 in
theorem n_X3 {l : Launch} {sx : List sx_T} {D : va_G} {cI cZ cO : ClassId} (a_o : Nat) : CtN l yX3_init wsX3_init rmN_X3 sx D (tyL cI cZ cO) nwL [.ref a_o] [(oX3 a_o .null)] (fun u => [(oX3 a_o (.ref (u.1 0))), ((u.1 0), .inl (cI, 384, .inl (fun _ => 0)))]) 1 384 := by
  refine ctN_of (cc := cX3_init) (ret := none) (maxL := 1) (by decide +kernel) rfl (Nat.le_of_ble_eq_true rfl) ?_
  intro p e s m below meth c A ls C K hN hin hw hl
  obtain ⟨hx, hb, hml, hown, hts, hr, hlk⟩ := id C
  obtain ⟨hK, hX, hA⟩ := id K
  have hl : lv_has ls 1 [(0, .ref a_o)] := hl
  refine lv_aload_n hx hb dX3_init_0 rfl (lv_at hl 0 rfl) ?_
  refine W.objInit hx hb hown (hts _ lk_X3_init_0) (hts _ lk_X3_init_1) (hts _ lk_X3_init_2) rfl (by rw [hml]; exact hl.1) rfl dX3_init_1 (Nat.le_of_ble_eq_true rfl) (Nat.le_of_ble_eq_true rfl) ?_
  refine W.eq (g2 := F0 m 4 ls []) rfl ?_
  refine lv_aload_n hx hb dX3_init_4 rfl (lv_at hl 0 rfl) ?_
  refine lv_sipush (v := (384 : Int32)) hx hb dX3_init_5 (by decide +kernel) ?_
  refine nw_I hx hb (hts _ lk_X3_init_3) K hw 384 (by decide +kernel) (by decide +kernel) (by decide +kernel) (Nat.le_of_ble_eq_true rfl) (Nat.le_of_ble_eq_true rfl) dX3_init_8 (fun q1 H hw => ?_)
  have hw : Wo D A s [(oX3 a_o .null), (q1, .inl (cI, 384, .inl (fun _ => 0)))] H _ := hw
  refine W.widen (k := 1) (n := 384) (Nat.le_refl _) (Nat.le_refl _) ?_
  refine va_putF (ci := 3) (v := .ref q1) (ty := .array .int) (C := RX3) (T := TX3) (N := 1) hx hb hts in_X3_init_X3 tyX3 tyX3_ok nmX3 hown hK hw.1 hw.2.1 hw.2.2 0 rfl rfl 0 (by decide +kernel) (hts _ lk_X3_init_4) (fun _ h9 => h9) rfl hin rfl (by decide +kernel) rfl rfl (Nat.le_of_ble_eq_true rfl) dX3_init_10 (fun H locs hP hD hS => ?_)
  have hw : Wo D A s [(oX3 a_o (.ref q1)), (q1, .inl (cI, 384, .inl (fun _ => 0)))] H _ := ⟨hP, hD, hS⟩
  exact retN (w1 := fun u => [(oX3 a_o (.ref (u.1 0))), ((u.1 0), .inl (cI, 384, .inl (fun _ => 0)))]) C (fun k => ([q1] : List Nat).getD k 0, (fun _ => 0)) hw dX3_init_13
abbrev rmN_X0 : Room := { frames := 1, cells := 1, slots := 2760, locals := 12 }
theorem in_X0_init_X0 : ∀ w ∈ u_ws RX0 TX0 3, w ∈ wsX0_init := fun w h => List.mem_cons_of_mem _ (bi_wsX00 w h)
theorem lk_X0_init_0 : Cond.methodLink RX0 1 objectInit ∈ wsX0_init := List.mem_cons_of_mem _ (bi_wsL_law0_r5 _ (List.mem_of_getElem? (i := 20) rfl))
theorem lk_X0_init_1 : Cond.instanceMethod objectInit ∈ wsX0_init := List.mem_cons_of_mem _ (bi_wsL_law0_r1 _ (List.mem_of_getElem? (i := 12) rfl))
theorem lk_X0_init_2 : Cond.code objectInit ⟨#[0xb1]⟩ 1 none ∈ wsX0_init := List.mem_cons_of_mem _ (bi_wsL_law0_r1 _ (List.mem_of_getElem? (i := 13) rfl))
theorem lk_X0_init_3 : Cond.arrayClass .int ∈ wsX0_init := List.mem_cons_of_mem _ (bi_wsL_law0_r3 _ (List.mem_of_getElem? (i := 13) rfl))
theorem lk_X0_init_4 : Cond.fieldLink RX0 11 "GloveHouses$Acts" "rows" "[I" ∈ wsX0_init := List.mem_cons_of_mem _ (bi_wsL_law0_r5 _ (List.mem_of_getElem? (i := 21) rfl))
set_option maxHeartbeats 4000000 in
set_option maxRecDepth 100000 in
theorem n_X0 {l : Launch} {sx : List sx_T} {D : va_G} {cI cZ cO : ClassId} (a_o : Nat) : CtN l yX0_init wsX0_init rmN_X0 sx D (tyL cI cZ cO) nwL [.ref a_o] [(oX0 a_o (.int 0) (.int 0) .null)] (fun u => [(oX0 a_o (.int 0) (.int 0) (.ref (u.1 0))), ((u.1 0), .inl (cI, 2760, .inl (fun _ => 0)))]) 1 2760 := by
  refine ctN_of (cc := cX0_init) (ret := none) (maxL := 1) (by decide +kernel) rfl (Nat.le_of_ble_eq_true rfl) ?_
  intro p e s m below meth c A ls C K hN hin hw hl
  obtain ⟨hx, hb, hml, hown, hts, hr, hlk⟩ := id C
  obtain ⟨hK, hX, hA⟩ := id K
  have hl : lv_has ls 1 [(0, .ref a_o)] := hl
  refine lv_aload_n hx hb dX0_init_0 rfl (lv_at hl 0 rfl) ?_
  refine W.objInit hx hb hown (hts _ lk_X0_init_0) (hts _ lk_X0_init_1) (hts _ lk_X0_init_2) rfl (by rw [hml]; exact hl.1) rfl dX0_init_1 (Nat.le_of_ble_eq_true rfl) (Nat.le_of_ble_eq_true rfl) ?_
  refine W.eq (g2 := F0 m 4 ls []) rfl ?_
  refine lv_aload_n hx hb dX0_init_4 rfl (lv_at hl 0 rfl) ?_
  refine lv_sipush (v := (2760 : Int32)) hx hb dX0_init_5 (by decide +kernel) ?_
  refine nw_I hx hb (hts _ lk_X0_init_3) K hw 2760 (by decide +kernel) (by decide +kernel) (by decide +kernel) (Nat.le_of_ble_eq_true rfl) (Nat.le_of_ble_eq_true rfl) dX0_init_8 (fun q1 H hw => ?_)
  have hw : Wo D A s [(oX0 a_o (.int 0) (.int 0) .null), (q1, .inl (cI, 2760, .inl (fun _ => 0)))] H _ := hw
  refine W.widen (k := 1) (n := 2760) (Nat.le_refl _) (Nat.le_refl _) ?_
  refine va_putF (ci := 0) (v := .ref q1) (ty := .array .int) (C := RX0) (T := TX0) (N := 3) hx hb hts in_X0_init_X0 tyX0 tyX0_ok nmX0 hown hK hw.1 hw.2.1 hw.2.2 0 rfl rfl 2 (by decide +kernel) (hts _ lk_X0_init_4) (fun _ h9 => h9) rfl hin rfl (by decide +kernel) rfl rfl (Nat.le_of_ble_eq_true rfl) dX0_init_10 (fun H locs hP hD hS => ?_)
  have hw : Wo D A s [(oX0 a_o (.int 0) (.int 0) (.ref q1)), (q1, .inl (cI, 2760, .inl (fun _ => 0)))] H _ := ⟨hP, hD, hS⟩
  exact retN (w1 := fun u => [(oX0 a_o (.int 0) (.int 0) (.ref (u.1 0))), ((u.1 0), .inl (cI, 2760, .inl (fun _ => 0)))]) C (fun k => ([q1] : List Nat).getD k 0, (fun _ => 0)) hw dX0_init_13
abbrev rmN_X8 : Room := { frames := 1, cells := 4, slots := 40, locals := 12 }
theorem in_X8_init_X8 : ∀ w ∈ u_ws RX8 TX8 7, w ∈ wsX8_init := fun w h => List.mem_cons_of_mem _ (bi_wsX80 w h)
theorem lk_X8_init_0 : Cond.methodLink RX8 3 objectInit ∈ wsX8_init := List.mem_cons_of_mem _ (bi_wsL_law0_r6 _ (List.mem_of_getElem? (i := 1) rfl))
theorem lk_X8_init_1 : Cond.instanceMethod objectInit ∈ wsX8_init := List.mem_cons_of_mem _ (bi_wsL_law0_r1 _ (List.mem_of_getElem? (i := 12) rfl))
theorem lk_X8_init_2 : Cond.code objectInit ⟨#[0xb1]⟩ 1 none ∈ wsX8_init := List.mem_cons_of_mem _ (bi_wsL_law0_r1 _ (List.mem_of_getElem? (i := 13) rfl))
theorem lk_X8_init_3 : Cond.arrayClass .int ∈ wsX8_init := List.mem_cons_of_mem _ (bi_wsL_law0_r3 _ (List.mem_of_getElem? (i := 13) rfl))
theorem lk_X8_init_4 : Cond.fieldLink RX8 11 "GloveHouses$Sightings" "ones" "[I" ∈ wsX8_init := List.mem_cons_of_mem _ (bi_wsL_law0_r6 _ (List.mem_of_getElem? (i := 2) rfl))
theorem lk_X8_init_5 : Cond.fieldLink RX8 15 "GloveHouses$Sightings" "others" "[I" ∈ wsX8_init := List.mem_cons_of_mem _ (bi_wsL_law0_r6 _ (List.mem_of_getElem? (i := 3) rfl))
theorem lk_X8_init_6 : Cond.fieldLink RX8 18 "GloveHouses$Sightings" "bounds" "[I" ∈ wsX8_init := List.mem_cons_of_mem _ (bi_wsL_law0_r6 _ (List.mem_of_getElem? (i := 4) rfl))
theorem lk_X8_init_7 : Cond.arrayClass .boolean ∈ wsX8_init := List.mem_cons_of_mem _ (bi_wsL_law0_r6 _ (List.mem_of_getElem? (i := 5) rfl))
theorem lk_X8_init_8 : Cond.fieldLink RX8 21 "GloveHouses$Sightings" "reached" "[Z" ∈ wsX8_init := List.mem_cons_of_mem _ (bi_wsL_law0_r6 _ (List.mem_of_getElem? (i := 6) rfl))
theorem lk_X8_init_9 : Cond.fieldLink RX8 25 "GloveHouses$Sightings" "told" "LGloveHouses$Peace;" ∈ wsX8_init := List.mem_cons_of_mem _ (bi_wsL_law0_r6 _ (List.mem_of_getElem? (i := 7) rfl))
theorem lk_X8_init_10 : Cond.fieldLink RX8 29 "GloveHouses$Sightings" "laws" "LGloveHouses$Laws;" ∈ wsX8_init := List.mem_cons_of_mem _ (bi_wsL_law0_r6 _ (List.mem_of_getElem? (i := 8) rfl))
set_option maxHeartbeats 4000000 in
set_option maxRecDepth 100000 in
theorem n_X8 {l : Launch} {sx : List sx_T} {D : va_G} {cI cZ cO : ClassId} (a_o : Nat) (a_p1 : Nat) (a_p2 : Nat) : CtN l yX8_init wsX8_init rmN_X8 sx D (tyL cI cZ cO) nwL [.ref a_o, .ref a_p1, .ref a_p2] [(oX8 a_o (.int 0) .null .null .null .null .null .null)] (fun u => [(oX8 a_o (.int 0) (.ref (u.1 0)) (.ref (u.1 1)) (.ref (u.1 2)) (.ref (u.1 3)) (.ref a_p1) (.ref a_p2)), ((u.1 0), .inl (cI, 10, .inl (fun _ => 0))), ((u.1 1), .inl (cI, 10, .inl (fun _ => 0))), ((u.1 2), .inl (cI, 10, .inl (fun _ => 0))), ((u.1 3), .inl (cZ, 10, .inl (fun _ => 0)))]) 4 40 := by
  refine ctN_of (cc := cX8_init) (ret := none) (maxL := 3) (by decide +kernel) rfl (Nat.le_of_ble_eq_true rfl) ?_
  intro p e s m below meth c A ls C K hN hin hw hl
  obtain ⟨hx, hb, hml, hown, hts, hr, hlk⟩ := id C
  obtain ⟨hK, hX, hA⟩ := id K
  have hl : lv_has ls 3 [(0, .ref a_o), (1, .ref a_p1), (2, .ref a_p2)] := hl
  refine lv_aload_n hx hb dX8_init_0 rfl (lv_at hl 0 rfl) ?_
  refine W.objInit hx hb hown (hts _ lk_X8_init_0) (hts _ lk_X8_init_1) (hts _ lk_X8_init_2) rfl (by rw [hml]; exact hl.1) rfl dX8_init_1 (Nat.le_of_ble_eq_true rfl) (Nat.le_of_ble_eq_true rfl) ?_
  refine W.eq (g2 := F0 m 4 ls []) rfl ?_
  refine lv_aload_n hx hb dX8_init_4 rfl (lv_at hl 0 rfl) ?_
  refine lv_bipush (v := (10 : Int32)) hx hb dX8_init_5 (by decide +kernel) ?_
  refine nw_I hx hb (hts _ lk_X8_init_3) K hw 10 (by decide +kernel) (by decide +kernel) (by decide +kernel) (Nat.le_of_ble_eq_true rfl) (Nat.le_of_ble_eq_true rfl) dX8_init_7 (fun q1 H hw => ?_)
  have hw : Wo D A s [(oX8 a_o (.int 0) .null .null .null .null .null .null), (q1, .inl (cI, 10, .inl (fun _ => 0)))] H _ := hw
  refine W.widen (k := 1) (n := 10) (Nat.le_refl _) (Nat.le_refl _) ?_
  refine va_putF (ci := 8) (v := .ref q1) (ty := .array .int) (C := RX8) (T := TX8) (N := 7) hx hb hts in_X8_init_X8 tyX8 tyX8_ok nmX8 hown hK hw.1 hw.2.1 hw.2.2 0 rfl rfl 1 (by decide +kernel) (hts _ lk_X8_init_4) (fun _ h9 => h9) rfl hin rfl (by decide +kernel) rfl rfl (Nat.le_of_ble_eq_true rfl) dX8_init_9 (fun H locs hP hD hS => ?_)
  have hw : Wo D A s [(oX8 a_o (.int 0) (.ref q1) .null .null .null .null .null), (q1, .inl (cI, 10, .inl (fun _ => 0)))] H _ := ⟨hP, hD, hS⟩
  refine lv_aload_n hx hb dX8_init_12 rfl (lv_at hl 0 rfl) ?_
  refine lv_bipush (v := (10 : Int32)) hx hb dX8_init_13 (by decide +kernel) ?_
  refine nw_I hx hb (hts _ lk_X8_init_3) K hw 10 (by decide +kernel) (by decide +kernel) (by decide +kernel) (Nat.le_of_ble_eq_true rfl) (Nat.le_of_ble_eq_true rfl) dX8_init_15 (fun q2 H hw => ?_)
  have hw : Wo D A s [(oX8 a_o (.int 0) (.ref q1) .null .null .null .null .null), (q1, .inl (cI, 10, .inl (fun _ => 0))), (q2, .inl (cI, 10, .inl (fun _ => 0)))] H _ := hw
  refine W.widen (k := 2) (n := 20) (Nat.le_refl _) (Nat.le_refl _) ?_
  refine va_putF (ci := 8) (v := .ref q2) (ty := .array .int) (C := RX8) (T := TX8) (N := 7) hx hb hts in_X8_init_X8 tyX8 tyX8_ok nmX8 hown hK hw.1 hw.2.1 hw.2.2 0 rfl rfl 2 (by decide +kernel) (hts _ lk_X8_init_5) (fun _ h9 => h9) rfl hin rfl (by decide +kernel) rfl rfl (Nat.le_of_ble_eq_true rfl) dX8_init_17 (fun H locs hP hD hS => ?_)
  have hw : Wo D A s [(oX8 a_o (.int 0) (.ref q1) (.ref q2) .null .null .null .null), (q1, .inl (cI, 10, .inl (fun _ => 0))), (q2, .inl (cI, 10, .inl (fun _ => 0)))] H _ := ⟨hP, hD, hS⟩
  refine lv_aload_n hx hb dX8_init_20 rfl (lv_at hl 0 rfl) ?_
  refine lv_bipush (v := (10 : Int32)) hx hb dX8_init_21 (by decide +kernel) ?_
  refine nw_I hx hb (hts _ lk_X8_init_3) K hw 10 (by decide +kernel) (by decide +kernel) (by decide +kernel) (Nat.le_of_ble_eq_true rfl) (Nat.le_of_ble_eq_true rfl) dX8_init_23 (fun q3 H hw => ?_)
  have hw : Wo D A s [(oX8 a_o (.int 0) (.ref q1) (.ref q2) .null .null .null .null), (q1, .inl (cI, 10, .inl (fun _ => 0))), (q2, .inl (cI, 10, .inl (fun _ => 0))), (q3, .inl (cI, 10, .inl (fun _ => 0)))] H _ := hw
  refine W.widen (k := 3) (n := 30) (Nat.le_refl _) (Nat.le_refl _) ?_
  refine va_putF (ci := 8) (v := .ref q3) (ty := .array .int) (C := RX8) (T := TX8) (N := 7) hx hb hts in_X8_init_X8 tyX8 tyX8_ok nmX8 hown hK hw.1 hw.2.1 hw.2.2 0 rfl rfl 3 (by decide +kernel) (hts _ lk_X8_init_6) (fun _ h9 => h9) rfl hin rfl (by decide +kernel) rfl rfl (Nat.le_of_ble_eq_true rfl) dX8_init_25 (fun H locs hP hD hS => ?_)
  have hw : Wo D A s [(oX8 a_o (.int 0) (.ref q1) (.ref q2) (.ref q3) .null .null .null), (q1, .inl (cI, 10, .inl (fun _ => 0))), (q2, .inl (cI, 10, .inl (fun _ => 0))), (q3, .inl (cI, 10, .inl (fun _ => 0)))] H _ := ⟨hP, hD, hS⟩
  refine lv_aload_n hx hb dX8_init_28 rfl (lv_at hl 0 rfl) ?_
  refine lv_bipush (v := (10 : Int32)) hx hb dX8_init_29 (by decide +kernel) ?_
  refine nw_Z hx hb (hts _ lk_X8_init_7) K hw 10 (by decide +kernel) (by decide +kernel) (by decide +kernel) (Nat.le_of_ble_eq_true rfl) (Nat.le_of_ble_eq_true rfl) dX8_init_31 (fun q4 H hw => ?_)
  have hw : Wo D A s [(oX8 a_o (.int 0) (.ref q1) (.ref q2) (.ref q3) .null .null .null), (q1, .inl (cI, 10, .inl (fun _ => 0))), (q2, .inl (cI, 10, .inl (fun _ => 0))), (q3, .inl (cI, 10, .inl (fun _ => 0))), (q4, .inl (cZ, 10, .inl (fun _ => 0)))] H _ := hw
  refine W.widen (k := 4) (n := 40) (Nat.le_refl _) (Nat.le_refl _) ?_
  refine va_putF (ci := 8) (v := .ref q4) (ty := .array .boolean) (C := RX8) (T := TX8) (N := 7) hx hb hts in_X8_init_X8 tyX8 tyX8_ok nmX8 hown hK hw.1 hw.2.1 hw.2.2 0 rfl rfl 4 (by decide +kernel) (hts _ lk_X8_init_8) (fun _ h9 => h9) rfl hin rfl (by decide +kernel) rfl rfl (Nat.le_of_ble_eq_true rfl) dX8_init_33 (fun H locs hP hD hS => ?_)
  have hw : Wo D A s [(oX8 a_o (.int 0) (.ref q1) (.ref q2) (.ref q3) (.ref q4) .null .null), (q1, .inl (cI, 10, .inl (fun _ => 0))), (q2, .inl (cI, 10, .inl (fun _ => 0))), (q3, .inl (cI, 10, .inl (fun _ => 0))), (q4, .inl (cZ, 10, .inl (fun _ => 0)))] H _ := ⟨hP, hD, hS⟩
  refine lv_aload_n hx hb dX8_init_36 rfl (lv_at hl 0 rfl) ?_
  refine lv_aload_n hx hb dX8_init_37 rfl (lv_at hl 1 rfl) ?_
  refine va_putF (ci := 8) (v := .ref a_p1) (ty := .object "GloveHouses$Peace") (C := RX8) (T := TX8) (N := 7) hx hb hts in_X8_init_X8 tyX8 tyX8_ok nmX8 hown hK hw.1 hw.2.1 hw.2.2 0 rfl rfl 5 (by decide +kernel) (hts _ lk_X8_init_9) (fun _ h9 => h9) rfl hin rfl (by decide +kernel) rfl rfl (Nat.le_of_ble_eq_true rfl) dX8_init_38 (fun H locs hP hD hS => ?_)
  have hw : Wo D A s [(oX8 a_o (.int 0) (.ref q1) (.ref q2) (.ref q3) (.ref q4) (.ref a_p1) .null), (q1, .inl (cI, 10, .inl (fun _ => 0))), (q2, .inl (cI, 10, .inl (fun _ => 0))), (q3, .inl (cI, 10, .inl (fun _ => 0))), (q4, .inl (cZ, 10, .inl (fun _ => 0)))] H _ := ⟨hP, hD, hS⟩
  refine lv_aload_n hx hb dX8_init_41 rfl (lv_at hl 0 rfl) ?_
  refine lv_aload_n hx hb dX8_init_42 rfl (lv_at hl 2 rfl) ?_
  refine va_putF (ci := 8) (v := .ref a_p2) (ty := .object "GloveHouses$Laws") (C := RX8) (T := TX8) (N := 7) hx hb hts in_X8_init_X8 tyX8 tyX8_ok nmX8 hown hK hw.1 hw.2.1 hw.2.2 0 rfl rfl 6 (by decide +kernel) (hts _ lk_X8_init_10) (fun _ h9 => h9) rfl hin rfl (by decide +kernel) rfl rfl (Nat.le_of_ble_eq_true rfl) dX8_init_43 (fun H locs hP hD hS => ?_)
  have hw : Wo D A s [(oX8 a_o (.int 0) (.ref q1) (.ref q2) (.ref q3) (.ref q4) (.ref a_p1) (.ref a_p2)), (q1, .inl (cI, 10, .inl (fun _ => 0))), (q2, .inl (cI, 10, .inl (fun _ => 0))), (q3, .inl (cI, 10, .inl (fun _ => 0))), (q4, .inl (cZ, 10, .inl (fun _ => 0)))] H _ := ⟨hP, hD, hS⟩
  exact retN (w1 := fun u => [(oX8 a_o (.int 0) (.ref (u.1 0)) (.ref (u.1 1)) (.ref (u.1 2)) (.ref (u.1 3)) (.ref a_p1) (.ref a_p2)), ((u.1 0), .inl (cI, 10, .inl (fun _ => 0))), ((u.1 1), .inl (cI, 10, .inl (fun _ => 0))), ((u.1 2), .inl (cI, 10, .inl (fun _ => 0))), ((u.1 3), .inl (cZ, 10, .inl (fun _ => 0)))]) C (fun k => ([q1, q2, q3, q4] : List Nat).getD k 0, (fun _ => 0)) hw dX8_init_46
abbrev rmN_X4 : Room := { frames := 1, cells := 2, slots := 42, locals := 12 }
theorem in_X4_init_X4 : ∀ w ∈ u_ws RX4 TX4 7, w ∈ wsX4_init := fun w h => List.mem_cons_of_mem _ (bi_wsX40 w h)
theorem lk_X4_init_0 : Cond.methodLink RX4 3 objectInit ∈ wsX4_init := List.mem_cons_of_mem _ (bi_wsL_law0_r6 _ (List.mem_of_getElem? (i := 12) rfl))
theorem lk_X4_init_1 : Cond.instanceMethod objectInit ∈ wsX4_init := List.mem_cons_of_mem _ (bi_wsL_law0_r1 _ (List.mem_of_getElem? (i := 12) rfl))
theorem lk_X4_init_2 : Cond.code objectInit ⟨#[0xb1]⟩ 1 none ∈ wsX4_init := List.mem_cons_of_mem _ (bi_wsL_law0_r1 _ (List.mem_of_getElem? (i := 13) rfl))
theorem lk_X4_init_3 : Cond.arrayClass .int ∈ wsX4_init := List.mem_cons_of_mem _ (bi_wsL_law0_r3 _ (List.mem_of_getElem? (i := 13) rfl))
theorem lk_X4_init_4 : Cond.fieldLink RX4 9 "GloveHouses$Match" "unmet" "[I" ∈ wsX4_init := List.mem_cons_of_mem _ (bi_wsL_law0_r6 _ (List.mem_of_getElem? (i := 13) rfl))
theorem lk_X4_init_5 : Cond.fieldLink RX4 15 "GloveHouses$Match" "rise" "[I" ∈ wsX4_init := List.mem_cons_of_mem _ (bi_wsL_law0_r6 _ (List.mem_of_getElem? (i := 14) rfl))
theorem lk_X4_init_6 : Cond.fieldLink RX4 18 "GloveHouses$Match" "told" "LGloveHouses$Peace;" ∈ wsX4_init := List.mem_cons_of_mem _ (bi_wsL_law0_r6 _ (List.mem_of_getElem? (i := 15) rfl))
set_option maxHeartbeats 4000000 in
set_option maxRecDepth 100000 in
theorem n_X4 {l : Launch} {sx : List sx_T} {D : va_G} {cI cZ cO : ClassId} (a_o : Nat) (a_p1 : Nat) : CtN l yX4_init wsX4_init rmN_X4 sx D (tyL cI cZ cO) nwL [.ref a_o, .ref a_p1] [(oX4 a_o (.int 0) (.int 0) (.int 0) .null .null .null (.int 0))] (fun u => [(oX4 a_o (.int 0) (.int 0) (.int 0) (.ref (u.1 0)) (.ref (u.1 1)) (.ref a_p1) (.int 0)), ((u.1 0), .inl (cI, 6, .inl (fun _ => 0))), ((u.1 1), .inl (cI, 36, .inl (fun _ => 0)))]) 2 42 := by
  refine ctN_of (cc := cX4_init) (ret := none) (maxL := 2) (by decide +kernel) rfl (Nat.le_of_ble_eq_true rfl) ?_
  intro p e s m below meth c A ls C K hN hin hw hl
  obtain ⟨hx, hb, hml, hown, hts, hr, hlk⟩ := id C
  obtain ⟨hK, hX, hA⟩ := id K
  have hl : lv_has ls 2 [(0, .ref a_o), (1, .ref a_p1)] := hl
  refine lv_aload_n hx hb dX4_init_0 rfl (lv_at hl 0 rfl) ?_
  refine W.objInit hx hb hown (hts _ lk_X4_init_0) (hts _ lk_X4_init_1) (hts _ lk_X4_init_2) rfl (by rw [hml]; exact hl.1) rfl dX4_init_1 (Nat.le_of_ble_eq_true rfl) (Nat.le_of_ble_eq_true rfl) ?_
  refine W.eq (g2 := F0 m 4 ls []) rfl ?_
  refine lv_aload_n hx hb dX4_init_4 rfl (lv_at hl 0 rfl) ?_
  refine lv_bipush (v := (6 : Int32)) hx hb dX4_init_5 (by decide +kernel) ?_
  refine nw_I hx hb (hts _ lk_X4_init_3) K hw 6 (by decide +kernel) (by decide +kernel) (by decide +kernel) (Nat.le_of_ble_eq_true rfl) (Nat.le_of_ble_eq_true rfl) dX4_init_7 (fun q1 H hw => ?_)
  have hw : Wo D A s [(oX4 a_o (.int 0) (.int 0) (.int 0) .null .null .null (.int 0)), (q1, .inl (cI, 6, .inl (fun _ => 0)))] H _ := hw
  refine W.widen (k := 1) (n := 6) (Nat.le_refl _) (Nat.le_refl _) ?_
  refine va_putF (ci := 4) (v := .ref q1) (ty := .array .int) (C := RX4) (T := TX4) (N := 7) hx hb hts in_X4_init_X4 tyX4 tyX4_ok nmX4 hown hK hw.1 hw.2.1 hw.2.2 0 rfl rfl 3 (by decide +kernel) (hts _ lk_X4_init_4) (fun _ h9 => h9) rfl hin rfl (by decide +kernel) rfl rfl (Nat.le_of_ble_eq_true rfl) dX4_init_9 (fun H locs hP hD hS => ?_)
  have hw : Wo D A s [(oX4 a_o (.int 0) (.int 0) (.int 0) (.ref q1) .null .null (.int 0)), (q1, .inl (cI, 6, .inl (fun _ => 0)))] H _ := ⟨hP, hD, hS⟩
  refine lv_aload_n hx hb dX4_init_12 rfl (lv_at hl 0 rfl) ?_
  refine lv_bipush (v := (36 : Int32)) hx hb dX4_init_13 (by decide +kernel) ?_
  refine nw_I hx hb (hts _ lk_X4_init_3) K hw 36 (by decide +kernel) (by decide +kernel) (by decide +kernel) (Nat.le_of_ble_eq_true rfl) (Nat.le_of_ble_eq_true rfl) dX4_init_15 (fun q2 H hw => ?_)
  have hw : Wo D A s [(oX4 a_o (.int 0) (.int 0) (.int 0) (.ref q1) .null .null (.int 0)), (q1, .inl (cI, 6, .inl (fun _ => 0))), (q2, .inl (cI, 36, .inl (fun _ => 0)))] H _ := hw
  refine W.widen (k := 2) (n := 42) (Nat.le_refl _) (Nat.le_refl _) ?_
  refine va_putF (ci := 4) (v := .ref q2) (ty := .array .int) (C := RX4) (T := TX4) (N := 7) hx hb hts in_X4_init_X4 tyX4 tyX4_ok nmX4 hown hK hw.1 hw.2.1 hw.2.2 0 rfl rfl 4 (by decide +kernel) (hts _ lk_X4_init_5) (fun _ h9 => h9) rfl hin rfl (by decide +kernel) rfl rfl (Nat.le_of_ble_eq_true rfl) dX4_init_17 (fun H locs hP hD hS => ?_)
  have hw : Wo D A s [(oX4 a_o (.int 0) (.int 0) (.int 0) (.ref q1) (.ref q2) .null (.int 0)), (q1, .inl (cI, 6, .inl (fun _ => 0))), (q2, .inl (cI, 36, .inl (fun _ => 0)))] H _ := ⟨hP, hD, hS⟩
  refine lv_aload_n hx hb dX4_init_20 rfl (lv_at hl 0 rfl) ?_
  refine lv_aload_n hx hb dX4_init_21 rfl (lv_at hl 1 rfl) ?_
  refine va_putF (ci := 4) (v := .ref a_p1) (ty := .object "GloveHouses$Peace") (C := RX4) (T := TX4) (N := 7) hx hb hts in_X4_init_X4 tyX4 tyX4_ok nmX4 hown hK hw.1 hw.2.1 hw.2.2 0 rfl rfl 5 (by decide +kernel) (hts _ lk_X4_init_6) (fun _ h9 => h9) rfl hin rfl (by decide +kernel) rfl rfl (Nat.le_of_ble_eq_true rfl) dX4_init_22 (fun H locs hP hD hS => ?_)
  have hw : Wo D A s [(oX4 a_o (.int 0) (.int 0) (.int 0) (.ref q1) (.ref q2) (.ref a_p1) (.int 0)), (q1, .inl (cI, 6, .inl (fun _ => 0))), (q2, .inl (cI, 36, .inl (fun _ => 0)))] H _ := ⟨hP, hD, hS⟩
  exact retN (w1 := fun u => [(oX4 a_o (.int 0) (.int 0) (.int 0) (.ref (u.1 0)) (.ref (u.1 1)) (.ref a_p1) (.int 0)), ((u.1 0), .inl (cI, 6, .inl (fun _ => 0))), ((u.1 1), .inl (cI, 36, .inl (fun _ => 0)))]) C (fun k => ([q1, q2] : List Nat).getD k 0, (fun _ => 0)) hw dX4_init_25
abbrev rmN_X7 : Room := { frames := 1, cells := 0, slots := 0, locals := 12 }
theorem lk_X7_init_0 : Cond.methodLink RX7 3 objectInit ∈ wsX7_init := List.mem_cons_of_mem _ (bi_wsL_law0_r6 _ (List.mem_of_getElem? (i := 18) rfl))
theorem lk_X7_init_1 : Cond.instanceMethod objectInit ∈ wsX7_init := List.mem_cons_of_mem _ (bi_wsL_law0_r1 _ (List.mem_of_getElem? (i := 12) rfl))
theorem lk_X7_init_2 : Cond.code objectInit ⟨#[0xb1]⟩ 1 none ∈ wsX7_init := List.mem_cons_of_mem _ (bi_wsL_law0_r1 _ (List.mem_of_getElem? (i := 13) rfl))
set_option maxHeartbeats 4000000 in
set_option maxRecDepth 100000 in
theorem n_X7 {l : Launch} {sx : List sx_T} {D : va_G} {cI cZ cO : ClassId} (a_o : Nat) : CtN l yX7_init wsX7_init rmN_X7 sx D (tyL cI cZ cO) nwL [.ref a_o] [(oX7 a_o .null (.int 0) (.int 0) (.int 0) (.int 0))] (fun u => [(oX7 a_o .null (.int 0) (.int 0) (.int 0) (.int 0))]) 0 0 := by
  refine ctN_of (cc := cX7_init) (ret := none) (maxL := 1) (by decide +kernel) rfl (Nat.le_of_ble_eq_true rfl) ?_
  intro p e s m below meth c A ls C K hN hin hw hl
  obtain ⟨hx, hb, hml, hown, hts, hr, hlk⟩ := id C
  obtain ⟨hK, hX, hA⟩ := id K
  have hl : lv_has ls 1 [(0, .ref a_o)] := hl
  refine lv_aload_n hx hb dX7_init_0 rfl (lv_at hl 0 rfl) ?_
  refine W.objInit hx hb hown (hts _ lk_X7_init_0) (hts _ lk_X7_init_1) (hts _ lk_X7_init_2) rfl (by rw [hml]; exact hl.1) rfl dX7_init_1 (Nat.le_of_ble_eq_true rfl) (Nat.le_of_ble_eq_true rfl) ?_
  refine W.eq (g2 := F0 m 4 ls []) rfl ?_
  exact retN (w1 := fun u => [(oX7 a_o .null (.int 0) (.int 0) (.int 0) (.int 0))]) C (fun k => ([] : List Nat).getD k 0, (fun _ => 0)) hw dX7_init_4
end
