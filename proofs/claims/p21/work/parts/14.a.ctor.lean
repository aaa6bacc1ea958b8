/-! constructors: a contract that says which cells come -/
theorem va_AOA.moved {ty : FieldType} {u U : State} (hvm : u.vm.Alike U.vm) (h : va_AOA ty u) : va_AOA ty U := fun args => arrayOver_alikeB hvm (h args)
def nwX (nw : List (String × Nat × MethodName × String)) (U : State) : Prop := va_AOA .int U ∧ ∀ q ∈ nw, va_Nw (.methodLinkNest q.1 q.2.1 q.2.2.1 q.2.2.2) U
theorem nwX.warm {nw : List (String × Nat × MethodName × String)} {s U : State} (h : nwX nw s) (hW : s.WarmedH U.vm) : nwX nw U := ⟨h.1.moved hW.alike, fun q hq => va_Nw.warmM hW (h.2 q hq)⟩
abbrev uN : Type := (Nat → Nat) × (Nat → Nat)
def PreN (sx : List sx_T) (D : va_G) (tys : List (ClassId × FieldType)) (nw : List (String × Nat × MethodName × String)) (wc : va_W) (sz : Nat) (U : State) : Prop := PreC sx D tys wc sz U ∧ nwX nw U
def QcN (D : va_G) (A : Nat → Prop) (w1 : uN → va_W) : Array Value → State → Outcome → State → Prop := va_Qv (fun (_ : uN) => True) (fun u t => va_P D vwCl (w1 u) t.heap ∧ va_D A (w1 u)) A
def CtN (l : Launch) (y : MethodName) (wsM : List Cond) (rm : Room) (sx : List sx_T) (D : va_G) (tys : List (ClassId × FieldType)) (nw : List (String × Nat × MethodName × String)) (av : List Value) (wc : va_W) (w1 : uN → va_W) (mc ms : Nat) : Prop := ∀ sz : Nat, Met l y wsM rm (va_Pc av (PreN sx D tys nw wc sz)) (QcN D (va_A wc sz) w1) mc ms (va_A wc sz)
theorem PreN.blind {sx : List sx_T} {D : va_G} {tys : List (ClassId × FieldType)} {nw : List (String × Nat × MethodName × String)} {av : List Value} {wc : va_W} {sz : Nat} : FrameBlind (va_Pc av (PreN sx D tys nw wc sz)) := fun a U g mk q => by
  obtain ⟨q0, qC, qN⟩ := q
  have h := PreC.blind (av := av) (sx := sx) (D := D) (tys := tys) (wc := wc) (sz := sz) a U g mk ⟨q0, qC⟩
  exact ⟨q0, h.2, qN.1.moved (U := U.calling g mk a) (Vm.Alike.refl U.vm), fun x hx => va_Nw.same (U := U.calling g mk a) rfl rfl (qN.2 x hx)⟩
theorem Wo.callN {D : va_G} {A : Nat → Prop} {s : State} {ws wr w1 : va_W} {H H1 : Heap} {locs locs1 : List Loc} {cl : Nat × va_E} (hw : Wo D A s ws H locs) (hA : ∀ q : Nat, s.heap.size ≤ q → A q) (j : Nat) (hj : ws[j]? = some cl) (isR : List Nat) (hR : isR.map (fun i => ws[i]?) = wr.map some) (hn : va_nd isR = true) (hdis : ∀ i ∈ isR, i ∉ [j]) (hP1 : va_P D vwCl w1 H1) (hD1 : va_D (va_A [cl] H.size) w1) (hk : ∀ q : Nat, q < H.size → ¬ va_A [cl] H.size q → H1[q]? = H[q]?) (hS1 : va_S A s.heap H1 locs1) : Wo D A s (wr ++ w1) H1 locs1 := by
  have hC : [j].map (fun i => ws[i]?) = [cl].map some := by simp [hj]
  obtain ⟨hP, hD⟩ := va_join (wc := [cl]) hw.1 hw.2.1 [j] isR hC hR hn hdis hk (va_free hw.2.1 hw.2.2 hA [j] hC) hP1 hD1
  exact ⟨hP, hD, hS1⟩
theorem Wo.pick {D : va_G} {A : Nat → Prop} {s : State} {ws ws' : va_W} {H : Heap} {locs : List Loc} (hw : Wo D A s ws H locs) (is : List Nat) (hn : va_nd is = true) (hs : is.map (fun i => ws[i]?) = ws'.map some) : Wo D A s ws' H locs := by
  refine ⟨fun k q hk => ?_, hw.2.1.sub is hn hs, hw.2.2⟩
  obtain ⟨i, -, h⟩ := pick_at hs hk
  exact hw.1 i q h
section CN
variable {p : Program} {l : Launch} {e : Env} {R : Room} {s : State} {m : MethodId} {args : Array Value} {below : List Frame} {meth : Method} {c : Code} {H : Heap} {locs : List Loc} {cells slots : Nat} {Q : State → Prop}
variable {own : String} {Ts : List Cond} {cc : ByteArray} {nL : Nat} {ret : Option FieldType} {sx : List sx_T} {D : va_G} {tys : List (ClassId × FieldType)} {A : Nat → Prop} {ws : va_W} {pc : Nat} {ls : Array Slot} {rest st0 : List Value} {nw : List (String × Nat × MethodName × String)} {cI cZ cO : ClassId}
theorem ctN_of {y : MethodName} {wsM ws' : List Cond} {rm : Room} {av : List Value} {wc : va_W} {w1 : uN → va_W} {maxL mc ms : Nat} (hy : plainName y.cls = true) (hw : wsM = Cond.code y cc maxL ret :: ws') (hlen : (lg_sl av).length ≤ maxL)
    (body : ∀ (p : Program) (e : Env) (s : State) (m : MethodId) (below : List Frame) (meth : Method) (c : Code) (A : Nat → Prop) (ls : Array Slot), Cx p s m av.toArray meth c y.cls wsM cc maxL ret → Kx sx D tys A s → nwX nw s → meth.name = y.name → Wo D A s wc s.heap [] → lv_has ls maxL (lv_args 0 av) → W p l e rm s m av.toArray below meth c s.heap [] 0 0 (MQ below (QcN D A w1) av.toArray s mc ms A) (F0 m 0 ls [])) : CtN l y wsM rm sx D tys nw av wc w1 mc ms := by
  intro sz
  refine Met.ofW (cc := cc) (maxL := maxL) (ret := ret) hy hw ?_
  intro p e s m args below meth c s₁ B hml hv
  obtain ⟨rfl, ⟨hsz, hP, hK, hD0, hX⟩, hN⟩ := hv
  subst hsz
  have hl := lv_entry av hlen
  rw [lg_entry_eq]
  exact body p e s m below meth c (va_A wc s.heap.size) _ ⟨B.exec, B.bytes, hml, findClass_of_methodNamed B.named, atoms_spec (ws := wsM) B.pre, B.returns, B.notSynchronized⟩ ⟨hK, hX, fun q h => Or.inr h⟩ hN (name_of_methodNamed B.named B.method).1 ⟨hP, hD0.self, va_S.rf⟩ hl
theorem retN (C : Cx p s m args meth c own Ts cc nL none) {w1 : uN → va_W} (u : uN) (hw : Wo D A s (w1 u) H locs) (hdg : decode cc pc = .ok (.return_, 1)) : W p l e R s m args below meth c H locs cells slots (MQ below (QcN D A w1) args s cells slots A) (F0 m pc ls []) := by
  obtain ⟨hx, hb, hml, hown, hts, hr, hlk⟩ := C
  obtain ⟨hP, hD, hS⟩ := hw
  exact W.vret hx hb hr (fun t ht hW => ⟨⟨u, rfl, trivial, by rw [ht]; exact hP, hD⟩, hS.F ht⟩) hS.2.2 hdg hlk
theorem clsI_eq (hK : va_K D vwCl (tyL cI cZ cO) s) {cA : ClassId} (h : va_K D vwCl (tyL cI cZ cO ++ [(cA, .int)]) s) : cA = cI := by
  have h1 : s.vm.findClass ("[" ++ FieldType.int.toString) = some cI := (hK.2 0 _ rfl).2
  have h2 : s.vm.findClass ("[" ++ FieldType.int.toString) = some cA := (h.2 3 _ rfl).2
  exact Option.some.inj (h2.symm.trans h1)
theorem clsZ_eq (hK : va_K D vwCl (tyL cI cZ cO) s) {cA : ClassId} (h : va_K D vwCl (tyL cI cZ cO ++ [(cA, .boolean)]) s) : cA = cZ := by
  have h1 : s.vm.findClass ("[" ++ FieldType.boolean.toString) = some cZ := (hK.2 1 _ rfl).2
  have h2 : s.vm.findClass ("[" ++ FieldType.boolean.toString) = some cA := (h.2 3 _ rfl).2
  exact Option.some.inj (h2.symm.trans h1)
theorem clsO_eq (hK : va_K D vwCl (tyL cI cZ cO) s) {cA : ClassId} (h : va_K D vwCl (tyL cI cZ cO ++ [(cA, .array .int)]) s) : cA = cO := by
  have h1 : s.vm.findClass ("[" ++ (FieldType.array .int).toString) = some cO := (hK.2 2 _ rfl).2
  have h2 : s.vm.findClass ("[" ++ (FieldType.array .int).toString) = some cA := (h.2 3 _ rfl).2
  exact Option.some.inj (h2.symm.trans h1)
theorem nw_I (hx : p.tables.exec = Jvm.exec) (hb : c.code = cc) (harr : (Cond.arrayClass .int).before args s = true) (K : Kx sx D (tyL cI cZ cO) A s) (hw : Wo D A s ws H locs) {n : Int32} (N' : Nat) (hn : ¬ n < 0) (hN : n.toNatClampNeg = N') (hbytes : N' * componentBytes .int ≤ 536870912) (hcells : cells + 1 ≤ R.cells) (hslots : slots + N' ≤ R.slots) (hdg : decode cc pc = .ok (.newarray .int, 2))
    (kk : ∀ (q : Nat) (H1 : Heap), Wo D A s (ws ++ [(q, .inl (cI, N', .inl (fun _ => 0)))]) H1 locs → W p l e R s m args below meth c H1 locs (cells + 1) (slots + N') Q (F0 m (pc + 2) ls (.ref q :: rest))) : W p l e R s m args below meth c H locs cells slots Q (F0 m pc ls (.int n :: rest)) := by
  refine va_newa (atype := .int) (ty := .int) hx hb harr rfl K.1 hw.1 hw.2.1 hw.2.2 K.2.2 (a0 := (N', .inl (fun _ => 0))) (fun cA => rfl) hn hN hbytes hcells hslots hdg (fun q cA H1 hK1 hP1 hD1 hS1 => ?_)
  obtain rfl := clsI_eq K.1 hK1
  exact kk q H1 ⟨hP1, hD1, hS1⟩
theorem nw_Z (hx : p.tables.exec = Jvm.exec) (hb : c.code = cc) (harr : (Cond.arrayClass .boolean).before args s = true) (K : Kx sx D (tyL cI cZ cO) A s) (hw : Wo D A s ws H locs) {n : Int32} (N' : Nat) (hn : ¬ n < 0) (hN : n.toNatClampNeg = N') (hbytes : N' * componentBytes .boolean ≤ 536870912) (hcells : cells + 1 ≤ R.cells) (hslots : slots + N' ≤ R.slots) (hdg : decode cc pc = .ok (.newarray .boolean, 2))
    (kk : ∀ (q : Nat) (H1 : Heap), Wo D A s (ws ++ [(q, .inl (cZ, N', .inl (fun _ => 0)))]) H1 locs → W p l e R s m args below meth c H1 locs (cells + 1) (slots + N') Q (F0 m (pc + 2) ls (.ref q :: rest))) : W p l e R s m args below meth c H locs cells slots Q (F0 m pc ls (.int n :: rest)) := by
  refine va_newa (atype := .boolean) (ty := .boolean) hx hb harr rfl K.1 hw.1 hw.2.1 hw.2.2 K.2.2 (a0 := (N', .inl (fun _ => 0))) (fun cA => rfl) hn hN hbytes hcells hslots hdg (fun q cA H1 hK1 hP1 hD1 hS1 => ?_)
  obtain rfl := clsZ_eq K.1 hK1
  exact kk q H1 ⟨hP1, hD1, hS1⟩
theorem nw_G (hx : p.tables.exec = Jvm.exec) (hb : c.code = cc) (hown : s.vm.findClass own = some m.cls) {index : Nat} (hcl : (Cond.classLink own index "[[I").before args s = true) (hov : va_AOA .int s) (harr : (Cond.arrayClass .int).before args s = true) (K : Kx sx D (tyL cI cZ cO) A s) (hw : Wo D A s ws H locs) {n k : Int32} (hn : ¬ n < 0) (hk : ¬ k < 0) (hN : n.toNatClampNeg = 4) (hM : k.toNatClampNeg = 241) (hcells : cells + 5 ≤ R.cells) (hslots : slots + 968 ≤ R.slots) (hdg : decode cc pc = .ok (.multianewarray index 2, 4))
    (kk : ∀ (q : Nat) (rw : Nat → Nat) (H1 : Heap), Wo D A s (ws ++ [(q, .inl (cO, 4, .inr (.inr (.inr (.inr (rwF rw)))))), (rw 0, .inl (cI, 241, .inl (fun _ => 0))), (rw 1, .inl (cI, 241, .inl (fun _ => 0))), (rw 2, .inl (cI, 241, .inl (fun _ => 0))), (rw 3, .inl (cI, 241, .inl (fun _ => 0)))]) H1 locs → W p l e R s m args below meth c H1 locs (cells + 5) (slots + 968) Q (F0 m (pc + 4) ls (.ref q :: rest))) : W p l e R s m args below meth c H locs cells slots Q (F0 m pc ls (.int k :: .int n :: rest)) := by
  have hcy : s.vm.findClass (FieldType.array .int).toString = some cI := (K.1.2 0 _ rfl).2
  have hz : ∀ (N : Nat) (c9 : ClassId), Jvm.Free.Multi.innerC c9 N (defaultValue .int) = vp_cell c9 (N, .inl (fun _ => 0)) := fun N c9 => by
    show ({ cls := c9, slots := Array.replicate N (defaultValue .int), vm := .none } : Cell) = arrV c9 N (fun _ => .int 0)
    rw [arrV_new]
    rfl
  have e0 : ws ++ va_pl [] (fun _ => (.inr (0, []) : va_E)) = ws := by simp [va_pl]
  refine va_mna (X := ws) (L := []) (f := fun _ => .inr (0, [])) (z := (241, .inl (fun _ => 0))) (N' := 4) (K' := 241) (ty := .int) hx hb hown hcl hov harr hcy K.1 (by rw [e0]; exact hw.1) (by rw [e0]; exact hw.2.1) hw.2.2 K.2.2 hn hk hN hM (by decide) (by decide) (by decide) rfl rfl (by show cells + (1 + 4) ≤ R.cells; omega) (by show slots + (4 + 4 * 241) ≤ R.slots; omega) (hz 241) hdg (fun q r cA H1 hinj hnL hK1 hP1 hD1 hS1 => ?_)
  obtain rfl := clsO_eq K.1 hK1
  have e1 : (ws ++ [(q, (.inl (cA, 4, .inr (.inr (.inr (.inr (fun i => if i < 4 then some (r i) else none))))) : va_E))]) ++ va_pl ([] ++ (List.range 4).map r) (vr_up (fun _ => (.inr (0, []) : va_E)) ((List.range 4).map r) (.inl (cI, 241, .inl (fun _ => 0)))) = ws ++ [(q, .inl (cA, 4, .inr (.inr (.inr (.inr (rwF r)))))), (r 0, .inl (cI, 241, .inl (fun _ => 0))), (r 1, .inl (cI, 241, .inl (fun _ => 0))), (r 2, .inl (cI, 241, .inl (fun _ => 0))), (r 3, .inl (cI, 241, .inl (fun _ => 0)))] := by
    simp [va_pl, vr_up, List.range, List.range.loop]
  rw [e1] at hP1 hD1
  exact kk q r H1 ⟨hP1, hD1, hS1⟩
variable {y : MethodName} {bytes : ByteArray} {maxL n index mc ms : Nat} {wsM : List Cond} {rm : Room} {b : Nat} {As : List Value} {w1 : uN → va_W} {wr : va_W}
theorem pre_ofN (K : Kx sx D tys A s) (hN : nwX nw s) (hw : Wo D A s ws H locs) {wc : va_W} (is : List Nat) (hn : va_nd is = true) (hC : is.map (fun i => ws[i]?) = wc.map some) {av : List Value} : ∀ U : State, U.heap = H → s.WarmedH U.vm → va_Pc av (PreN sx D tys nw wc H.size) av.toArray U := fun U hU hW => ⟨rfl, (pre_of K hw is hn hC (av := av) U hU hW).2, hN.warm hW⟩
theorem cl_I (C : Cx p s m args meth c own Ts cc nL ret) (K : Kx sx D tys A s) (hN : nwX nw s) (hw : Wo D A s ws H locs) {cl : Nat × va_E} (hM : CtN l y wsM rm sx D tys nw (.ref b :: As) [cl] w1 mc ms) (j : Nat) (hj : ws[j]? = some cl) (isR : List Nat) (hR : isR.map (fun i => ws[i]?) = wr.map some) (hn : va_nd isR = true) (hdis : ∀ i ∈ isR, i ∉ [j]) (cw : CallB R s args own index y bytes maxL none wsM rm mc ms n ∧ y.name = "<init>" ∧ (Cond.instanceMethod y).before args s = true) (hln : As.length = n) {lv : List (Nat × Value)} (hls : lv_has ls nL lv) (hst : st0 = As.reverse ++ .ref b :: rest) (hcat : (rest.map fun v => v.category).sum ≤ 8) (hdg : decode cc pc = .ok (.invokespecial index, 3)) (hf : cells + mc ≤ R.cells ∧ slots + ms ≤ R.slots)
    (kk : ∀ (u : uN) (H1 : Heap) (locs1 : List Loc), Wo D A s (wr ++ w1 u) H1 locs1 → W p l e R s m args below meth c H1 locs1 (cells + mc) (slots + ms) Q (F0 m (pc + 3) ls rest)) : W p l e R s m args below meth c H locs cells slots Q (F0 m pc ls st0) := by
  obtain ⟨hx, hb, hml, hown, hts, hr, hlk⟩ := C
  have hC : [j].map (fun i => ws[i]?) = [cl].map some := by simp [hj]
  have hFc := va_free hw.2.1 hw.2.2 K.2.2 [j] hC
  refine va_callv (va_runI (As := As) (rest := rest) ⟨hx, hb, hml, hown, hts⟩ (hM H.size) cw ⟨PreN.blind, pre_ofN K hN hw [j] (by simp [va_nd]) hC⟩ rfl hln hls.1 hst (lv_room hcat) hdg hf) hw.2.2 (fun q _ h => hFc q h) hFc (fun u t H1 locs1 ht hvm hp hB hz1 hk1 hS1 => ?_)
  exact kk u H1 locs1 (hw.callN K.2.2 j hj isR hR hn hdis (by rw [← ht]; exact hB.1) hB.2 hk1 hS1)
theorem cl_IN {host : String} (C : Cx p s m args meth c own Ts cc nL ret) (K : Kx sx D tys A s) (hN : nwX nw s) (hw : Wo D A s ws H locs) {cl : Nat × va_E} (hM : CtN l y wsM rm sx D tys nw (.ref b :: As) [cl] w1 mc ms) (j : Nat) (hj : ws[j]? = some cl) (isR : List Nat) (hR : isR.map (fun i => ws[i]?) = wr.map some) (hn : va_nd isR = true) (hdis : ∀ i ∈ isR, i ∉ [j]) (cw : va_CN R s args own index y host bytes maxL none wsM rm mc ms n ∧ y.name = "<init>" ∧ (Cond.instanceMethod y).before args s = true) (hln : As.length = n) {lv : List (Nat × Value)} (hls : lv_has ls nL lv) (hst : st0 = As.reverse ++ .ref b :: rest) (hcat : (rest.map fun v => v.category).sum ≤ 8) (hdg : decode cc pc = .ok (.invokespecial index, 3)) (hf : cells + mc ≤ R.cells ∧ slots + ms ≤ R.slots)
    (kk : ∀ (u : uN) (H1 : Heap) (locs1 : List Loc), Wo D A s (wr ++ w1 u) H1 locs1 → W p l e R s m args below meth c H1 locs1 (cells + mc) (slots + ms) Q (F0 m (pc + 3) ls rest)) : W p l e R s m args below meth c H locs cells slots Q (F0 m pc ls st0) := by
  obtain ⟨hx, hb, hml, hown, hts, hr, hlk⟩ := C
  have hC : [j].map (fun i => ws[i]?) = [cl].map some := by simp [hj]
  have hFc := va_free hw.2.1 hw.2.2 K.2.2 [j] hC
  refine va_callv (va_runIN (As := As) (rest := rest) ⟨hx, hb, hml, hown, hts⟩ (hM H.size) cw ⟨PreN.blind, pre_ofN K hN hw [j] (by simp [va_nd]) hC⟩ rfl hln hls.1 hst (lv_room hcat) hdg hf) hw.2.2 (fun q _ h => hFc q h) hFc (fun u t H1 locs1 ht hvm hp hB hz1 hk1 hS1 => ?_)
  exact kk u H1 locs1 (hw.callN K.2.2 j hj isR hR hn hdis (by rw [← ht]; exact hB.1) hB.2 hk1 hS1)
end CN
