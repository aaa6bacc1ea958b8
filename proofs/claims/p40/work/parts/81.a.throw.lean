section
/-! began as rows of kit/laws/EXCEPTIONS.to-paste, turned to a constructor that calls its super by another entry of the pool -/
section TX1
variable {p : Program} {l : Launch} {e : Env} {R : Room} {s : State} {m₀ : MethodId} {args : Array Value} {below : List Frame} {meth : Method} {c : Code} {W : State} {locs : List Loc} {cells slots : Nat}
set_option maxHeartbeats 1000000 in
theorem vx_ctorMadeSX (X : Stand p l e R s m₀ args below meth c W locs cells slots) (hexec : p.tables.exec = Jvm.exec) (htr : e.platform.stackTraces = false) {own cls : String} {names : List String} {ic : Nat} {ix : Nat} {rx : ByteArray} (x0 : decode rx 0 = .ok (.aload_n 0, 1)) (x1 : decode rx 1 = .ok (.aload_n 1, 1)) (x2 : decode rx 2 = .ok (.invokespecial ix, 3)) (x5 : decode rx 5 = .ok (.return_, 1))
    (hown : s.vm.findClass own = some m₀.cls) (hcls : Bundle.fit cls = true) (hnames : ∀ n ∈ names, Bundle.fit n = true)
    (h : ∀ a ∈ Bundle.ownAtomsX own ic cls ix rx names, a.before args s = true)
    (hlocs : ∀ x ∈ locs, ∀ cell, s.heap[x.base]? = some cell → cell.vm.isStatics = false)
    {a : Addr} {cX : ClassId} {kX : Class} (hfoundX : s.vm.findClass cls = some cX) (hkX : s.vm.classes[cX]? = some kX) (hcell : W.heap[a]? = some (freshCell cX kX)) (hnew : s.heap.size ≤ a)
    {msg : Value} (hmsg : msg.isRef = true)
    {g : JFrame} (hg : g.method = m₀) (hsize : g.locals.size = c.maxLocals) {rest : List Value} (hstack : g.stack = msg :: .ref a :: .ref a :: rest)
    (hd6 : decode c.code g.pc = .ok (.invokespecial ic, 3))
    (hRframes : names.length + 3 < R.frames) (hRlocals : 2 * g.monitorRoom + ((Value.ref a :: rest).map fun v => v.category).sum + (13 * (names.length + 1) + 42) ≤ R.locals) :
    ∃ (V : State) (ce : Cell) (L : List Loc), Stand p l e R s m₀ args below meth c (V.setCell a ce) (locs ++ L) cells slots ∧ (∀ y ∈ L, y.base = a) ∧ a < V.heap.size ∧ ce.cls = cX ∧ ce.vm = .none ∧
      ∀ target, Steps p.tables e below ((V.setCell a ce).setTop { g with stack := .ref a :: rest, pc := g.pc + 3 }) target → Steps p.tables e below (W.setTop g) target := by
  have howns : e.platform.frameOwnsMonitors = true := by rw [X.admits.platform]
  have hfin : e.platform.finalization = false := by rw [X.admits.platform]
  have hpl : e.platform.magicAccessors = ({} : Platform).magicAccessors := by rw [X.admits.platform]
  have a' : ∀ x, x ∈ Bundle.ownAtomsX own ic cls ix rx names → x.holds args s none s [] = true := fun x hx => h x hx
  obtain ⟨T, Z0, L, -, Y⟩ := ThrowableC.of_atoms (args := args) howns hfin hpl (fun x hx => h x (by simp [Bundle.ownAtomsX, hx]))
  obtain ⟨Z, M, LZ, LM, hnZ⟩ := Init0T.ofS_atoms (args := args) hpl L Y (fun x hx => h x (by simp [Bundle.ownAtomsX, hx]))
  obtain ⟨P1, Ps, hlen, L1, hL, hP1m, hlink1, hlink⟩ := Bundle.chainSX (args := args) hpl hnZ x0 x1 x2 x5 names cls hcls hnames (fun x hx => h x (by simp [Bundle.ownAtomsX, hx]))
  have hfound : s.vm.findClass cls = some P1.m.cls := findClass_of_methodNamed hP1m
  cases Option.some.inj (hfoundX.symm.trans hfound)
  obtain ⟨c1, kX', hc1, hk, hord, -, -, hn6⟩ := Cond.instantiable_spec (a' (.instantiable cls 6) (by simp [Bundle.ownAtomsX]))
  cases Option.some.inj (hc1.symm.trans hfound)
  cases Option.some.inj (hkX.symm.trans hk)
  have hsel0 : selectMethod e.platform s.vm P1.m.cls T.fill0 = .method T.fill0 := by
    obtain ⟨c2, r2, m2, q1, q2, q3, q4, -⟩ := Cond.selects_spec (a' (.selects cls Bundle.tFill0 Bundle.tFill0) (by simp [Bundle.ownAtomsX]))
    cases Option.some.inj (q1.symm.trans hfound)
    cases Option.some.inj (q2.symm.trans (State.methodFound?_of_named Y.fill0 (by decide)))
    cases Option.some.inj (q3.symm.trans Y.fill0)
    rw [Launch.admits_selectMethod X.admits]; exact q4
  have hselF : selectMethod e.platform s.vm P1.m.cls T.fill = .method T.fill := by
    obtain ⟨c2, r2, m2, q1, q2, q3, q4, -⟩ := Cond.selects_spec (a' (.selects cls Bundle.tFill Bundle.tFill) (by simp [Bundle.ownAtomsX]))
    cases Option.some.inj (q1.symm.trans hfound)
    cases Option.some.inj (q2.symm.trans (State.methodFound?_of_named Y.fill (by decide)))
    cases Option.some.inj (q3.symm.trans Y.fill)
    rw [Launch.admits_selectMethod X.admits]; exact q4
  obtain ⟨cellS0, hcS0, hiss⟩ := Y.statics
  obtain ⟨u0, hu0⟩ := Cond.staticRefV Y.unassigned L.unassignedStatic L.statics hcS0 hiss (a' (.isRef (.static Bundle.tN "UNASSIGNED_STACK" Bundle.steD)) (by simp [Bundle.ownAtomsX]))
  obtain ⟨sen, hsen⟩ := Cond.staticRefV Y.sentinel L.sentinelStatic L.statics hcS0 hiss (a' (.isRef (.static Bundle.tN "SUPPRESSED_SENTINEL" Bundle.listD)) (by simp [Bundle.ownAtomsX]))
  obtain ⟨ci198, i198, fB, hk198, hg198, ha198, hsB, -, hnB, htB, hffB⟩ := Cond.ownField (t := .object "java/lang/Object") Y.found L.cls (by decide +kernel) (a' (.fieldLink Bundle.tN 198 Bundle.tN "backtrace" "Ljava/lang/Object;") (by simp [Bundle.ownAtomsX])) (a' (.lays Bundle.tN Bundle.tN "backtrace" "Ljava/lang/Object;") (by simp [Bundle.ownAtomsX])) e.platform hpl
  obtain ⟨cellS, hcS', heS, -, hkeep⟩ := X.same.2.2.2.2.2 T.aS cellS0 hcS0
  have hcellS : W.heap[T.aS]? = some cellS := hcS'
  have hout' : ∀ i, (⟨T.aS, i⟩ : Loc) ∉ locs := fun i hmem => by
    have := hlocs _ hmem cellS0 hcS0
    rw [hiss] at this; cases this
  have hknownS : cellS.vm ≠ .unknown := by
    rw [heS]; intro hu
    rw [show cellS0.vm = .unknown from hu] at hiss
    cases hiss
  have hneS : T.aS ≠ a := Nat.ne_of_lt (Nat.lt_of_lt_of_le (Array.getElem?_eq_some_iff.mp hcS0).1 hnew)
  obtain ⟨iM, hffM⟩ := Y.msg
  obtain ⟨tyC, dC, hdC, hdnC⟩ := Cond.laysAt hfound hk Y.cause (a' (.lays cls Bundle.tN "cause" "Ljava/lang/Throwable;") (by simp [Bundle.ownAtomsX]))
  obtain ⟨tyS, dS, hdS, hdnS⟩ := Cond.laysAt hfound hk Y.stack (a' (.lays cls Bundle.tN "stackTrace" Bundle.steD) (by simp [Bundle.ownAtomsX]))
  obtain ⟨tyP, dP, hdP, hdnP⟩ := Cond.laysAt hfound hk Y.supp (a' (.lays cls Bundle.tN "suppressedExceptions" Bundle.listD) (by simp [Bundle.ownAtomsX]))
  obtain ⟨tyM, dM, hdM, hdnM⟩ := Cond.laysAt hfound hk hffM (a' (.lays cls Bundle.tN "detailMessage" "Ljava/lang/String;") (by simp [Bundle.ownAtomsX]))
  obtain ⟨tyB, dB, hdB, hdnB⟩ := Cond.laysAt hfound hk hffB (a' (.lays cls Bundle.tN "backtrace" "Ljava/lang/Object;") (by simp [Bundle.ownAtomsX]))
  have bC := Cond.laysApart hdB hdC hdnB hdnC (by rw [hnB, Y.causeName]; decide)
  have bS := Cond.laysApart hdB hdS hdnB hdnS (by rw [hnB, Y.stackName]; decide)
  have bP := Cond.laysApart hdB hdP hdnB hdnP (by rw [hnB, Y.suppName]; decide)
  have hskip : SkipFacts T e.platform s (fun u => u) u0 ((preparedCellV T.toThrowableT (freshCell P1.m.cls kX) a u0 sen).withEntry W.cur) :=
    ⟨{ ci198 := ci198, i198 := i198, fBack := fB }, ⟨hk198, hg198, ha198, hsB⟩, by
      have := fresh_default (c := P1.m.cls) tyB
      rw [htB] at this
      simpa [preparedCellV, Cell.setSlot, Cell.withEntry, Array.getElem?_setIfInBounds, bC, bS, bP, bC.symm, bS.symm, bP.symm, defaultValue] using this, fun _ _ => rfl⟩
  obtain ⟨tm, methC, cdC, kC, vm₁, hnC, -, -, -, -, -, -, -, hW₁, st1⟩ := Steps.initColdS (tb := p.tables) (e := e) (below := below) (s := s) (U := W) X.here hexec X.warmed hpl hown (t := Bundle.initS cls) rfl rfl (Bundle.fit_spec hcls).2
    (a' (.methodLink own ic (Bundle.initS cls)) (by simp [Bundle.ownAtomsX])) (h (.instanceMethod (Bundle.initS cls)) (by cases names <;> simp [Bundle.ownAtomsX, Bundle.chainSAtomsX, Bundle.passSAtoms])) (bytes := rx) (maxL := 2) (h (.code (Bundle.initS cls) rx 2 none) (by cases names <;> simp [Bundle.ownAtomsX, Bundle.chainSAtomsX, Bundle.passSAtoms]))
    (f := g) hg (a := a) (msg := msg) (rest := .ref a :: rest) hstack hd6
  cases Option.some.inj (hnC.symm.trans hP1m)
  have X₁ := X.noted hW₁
  obtain ⟨vm₂, X₂, st2⟩ := X₁.ctorMessageOffV hexec (g := { g with stack := .ref a :: rest }) hg hsize T L Z LZ M LM (P1 :: Ps)
    (fun P hP => by rcases List.mem_cons.mp hP with rfl | hP; exact L1; exact hL P hP) ⟨hlink1, hlink⟩ (u0 := u0) (sen := sen) (self := a) hmsg (cell := freshCell P1.m.cls kX) (cellS := cellS)
    hcell (fun _ => by simp) (by simp) rfl rfl hsel0 hselF hcellS hneS hknownS (by rw [hkeep _ (hout' _)]; exact hu0) (by rw [hkeep _ (hout' _)]; exact hsen)
    (Takes.of_laid hk hord tyC (by rw [Y.causeType]; rfl)) (Takes.of_laid hk hord tyS (by rw [Y.stackType]; exact fits_refV_array _ u0)) (Takes.of_laid hk hord tyP (by rw [Y.suppType]; exact fits_refV_object _ sen))
    (Takes.of_laid hk hord tyM (by rw [Y.msgType]; exact fits_refV_object _ ⟨msg, hmsg⟩)) Y.objLocals hskip htr [] hd6
    (by simp only [List.length_cons, hlen]; omega) (by simp only [List.length_cons, hlen]; exact hRlocals)
  have hlt : a < ((W.setVm vm₁).setVm vm₂).heap.size := (Array.getElem?_eq_some_iff.mp hcell).1
  refine ⟨(W.setVm vm₁).setVm vm₂, _, _, X₂, fun y hy => ?_, hlt, rfl, rfl, fun target hwalk => st1 _ (fun acts => ?_)⟩
  · simp only [List.mem_cons, List.not_mem_nil, or_false] at hy
    rcases hy with rfl | rfl | rfl | rfl | rfl <;> rfl
  · rw [doInvoke_state]
    exact st2 _ hwalk
end TX1
section TX2
variable {p : Program} {l : Launch} {e : Env} {R : Room} {s : State} {m : MethodId} {args : Array Value} {below : List Frame} {meth : Method} {c : Code} {H : Heap} {locs : List Loc} {cells slots : Nat} {Q : State → Prop} {ls : Array Slot} {rest : List Value}
theorem vx_back9 {T S : State} {R' : Room} {k n : Nat} (X : Stand p l e R s m args below meth c T locs cells slots) (Y : Stand p l e R' ((T.setVm s.vm).setFrames (.invoking m args :: below)) m args below meth c T [] 0 0) (Z : Stand p l e R' ((T.setVm s.vm).setFrames (.invoking m args :: below)) m args below meth c S [] k n) :
    Stand p l e R s m args below meth c S locs (cells + k) (slots + n) := by
  have hW0 : s.WarmedH ((T.setVm s.vm).setFrames (.invoking m args :: below)).vm := State.WarmedH.refl s
  refine { admits := X.admits, cas := X.cas, clock := X.clock, frames := X.frames, room := X.room, hears := X.hears, method := X.method, code := X.code, here := Z.here, tail := Z.tail, warmed := State.WarmedH.trans hW0 Z.warmed, limits := Z.limits.trans (Y.limits.symm.trans X.limits), bytes := Z.bytes.trans (Y.bytes.symm.trans X.bytes), same := ?_ }
  obtain ⟨e1, e2⟩ := Z.same
  rw [State.setFrames_setFrames] at e1
  have h2 : (T.setVm s.vm).sameButNew (S.setVm s.vm) [] k n := ⟨e1, e2⟩
  have h3 := X.same.trans h2
  rw [List.append_nil] at h3
  exact h3
theorem vx_makeSX {cc : ByteArray} {pc : Nat} (hexec : p.tables.exec = Jvm.exec) (hb : c.code = cc) (hl : l.stackTraces = false) {own cls text : String} {names : List String} {ik is ic sa : Nat} {A : Nat → Prop} {ix : Nat} {rx : ByteArray} (x0 : decode rx 0 = .ok (.aload_n 0, 1)) (x1 : decode rx 1 = .ok (.aload_n 1, 1)) (x2 : decode rx 2 = .ok (.invokespecial ix, 3)) (x5 : decode rx 5 = .ok (.return_, 1))
    (hown : s.vm.findClass own = some m.cls) (hcls : Bundle.fit cls = true) (hnames : ∀ n ∈ names, Bundle.fit n = true)
    (hk : (Cond.classLink own ik cls).before args s = true) (hini : (Cond.initialized cls).before args s = true) (hstr : vk_R own is text sa s) (hat : ∀ w ∈ vx_atX own ic cls ix rx names, w.before args s = true)
    (hgood : ∀ w ∈ Cond.classLink own ik cls :: Cond.initialized cls :: vx_atX own ic cls ix rx names, vx_ot w = true)
    (hU : vx_Zq Bundle.tN "UNASSIGNED_STACK" Bundle.steD A s s.heap) (hN : vx_Zq Bundle.tN "SUPPRESSED_SENTINEL" Bundle.listD A s s.heap) (hS : va_S A s.heap H locs) (hsize : ls.size = c.maxLocals)
    (d0 : decode cc pc = .ok (.new ik, 3)) (d3 : decode cc (pc + 3) = .ok (.dup, 1)) (d4 : decode cc (pc + 4) = .ok (.ldc is, 2)) (d6 : decode cc (pc + 6) = .ok (.invokespecial ic, 3))
    (hRframes : names.length + 3 < R.frames) (hRlocals : (rest.map fun v => v.category).sum + (13 * (names.length + 1) + 43) ≤ R.locals) (hRcells : cells + 1 ≤ R.cells) (hRslots : slots + 6 ≤ R.slots)
    (kk : ∀ (q : Nat) (ce : Cell) (H1 : Heap), H1[q]? = some ce → ce.vm = .none → s.vm.findClass cls = some ce.cls → H.size ≤ H1.size → (∀ z : Nat, z < H.size → H1[z]? = H[z]?) → va_S A s.heap H1 locs → W p l e R s m args below meth c H1 locs (cells + 1) (slots + 6) Q (F0 m (pc + 9) ls (.ref q :: rest))) :
    W p l e R s m args below meth c H locs cells slots Q (F0 m pc ls rest) := by
  intro T hT X
  subst hT
  have htr : e.platform.stackTraces = false := (show e.platform.stackTraces = l.stackTraces by rw [X.admits.platform]).trans hl
  have Y := vx_rebase X (R' := { frames := R.frames, locals := R.locals, cells := 1, slots := 6 }) (Nat.le_refl _) (Nat.le_refl _) hRcells hRslots
  obtain ⟨s', hA'⟩ : ∃ z, z = (T.setVm s.vm).setFrames (.invoking m args :: below) := ⟨_, rfl⟩
  rw [← hA'] at Y
  have hvm : s'.vm = s.vm := by rw [hA']; rfl
  have hhp : s'.heap = T.heap := by rw [hA']; rfl
  have hW0 : s.WarmedH s'.vm := by rw [hvm]; exact State.WarmedH.refl s
  have hat' : ∀ w ∈ vx_atX own ic cls ix rx names, w.before args s' = true := fun w hw => vx_ot_at hW0 hvm.symm (hgood w (List.mem_cons_of_mem _ (List.mem_cons_of_mem _ hw))) (hat w hw)
  have hk' : (Cond.classLink own ik cls).before args s' = true := vx_ot_at hW0 hvm.symm (hgood _ List.mem_cons_self) hk
  have hini' : (Cond.initialized cls).before args s' = true := vx_ot_at hW0 hvm.symm (hgood _ (List.mem_cons_of_mem _ List.mem_cons_self)) hini
  have hU' : vx_Zq Bundle.tN "UNASSIGNED_STACK" Bundle.steD A s' s'.heap := by rw [hhp]; exact vx_Zq.moved hW0.alike (hU.kept hS.2.1)
  have hN' : vx_Zq Bundle.tN "SUPPRESSED_SENTINEL" Bundle.listD A s' s'.heap := by rw [hhp]; exact vx_Zq.moved hW0.alike (hN.kept hS.2.1)
  have h : ∀ w ∈ Bundle.ownAtomsX own ic cls ix rx names, w.before args s' = true := vx_own hat' (vx_isRefq hU'.1) (vx_isRefq hN'.1) hU'.2.word hN'.2.word
  have hown' : s'.vm.findClass own = some m.cls := by rw [hvm]; exact hown
  have hins : (Cond.instantiable cls 6).before args s' = true := h _ (by simp [Bundle.ownAtomsX])
  obtain ⟨vm₁, cX, kX, hfX, hkX, -, -, X₁, st1⟩ := Y.newCold hexec (own := own) (C := cls) (index := ik) (n := 6) hown' hk' hins hini'
    (g := F0 m pc ls rest) rfl (by rw [hb]; exact d0) (Nat.le_refl _) (Nat.le_refl _)
  generalize hT1 : (T.setVm vm₁).pushCell { cls := cX, slots := kX.instanceTypes.map defaultValue, vm := .none } = T1 at X₁ st1
  have hcat : (Value.ref T.heap.size).category = 1 := rfl
  have hcellA : T1.heap[T.heap.size]? = some (freshCell cX kX) := by rw [← hT1]; exact State.heap_pushCell_size _ _
  have d3' : decode c.code (pc + 3) = .ok (.dup, 1) := by rw [hb]; exact d3
  have d4' : decode c.code (pc + 4) = .ok (.ldc is, 2) := by rw [hb]; exact d4
  have hstr' : vk_R own is text sa s' := vk_R.warm hW0 hstr
  obtain ⟨V, ce, L, Z, hL, hlt, hcl9, hvm9, st⟩ := vx_ctorMadeSX X₁ hexec htr x0 x1 x2 x5 (own := own) (cls := cls) (names := names) (ic := ic) hown' hcls hnames h (fun x hx => nomatch hx) hfX hkX hcellA (by rw [hhp]; exact Nat.le_refl _) (msg := .ref sa) rfl
    (g := { method := m, pc := pc + 6, locals := ls, stack := .ref sa :: .ref T.heap.size :: .ref T.heap.size :: rest, locked := none }) rfl hsize (rest := rest) rfl
    (by rw [hb]; exact d6) hRframes (by simp only [List.map_cons, List.sum_cons, hcat]; omega)
  have Z0 := Stand.forget (locs := []) Z (fun y hy => by rw [hL y hy, hhp]; exact Nat.le_refl _)
  obtain ⟨f1, f2⟩ := vx_frame Z0.same
  rw [hhp] at f1 f2
  have hcid : s.vm.findClass cls = some ce.cls := by
    rw [hcl9]
    rw [hvm] at hfX
    exact hfX
  have hh : (V.setCell T.heap.size ce).heap[T.heap.size]? = some ce := heapAt_setCell_self (s := V) ce hlt
  subst hA'
  have X5 := vx_back9 X Y Z0
  have X6 : Stand p l e R s m args below meth c (V.setCell T.heap.size ce) locs (cells + 1) (slots + 6) := { X5 with same := X5.same.mono (by omega) (by omega) }
  obtain ⟨t, a1, b1⟩ := kk T.heap.size ce (V.setCell T.heap.size ce).heap hh hvm9 hcid f1 (fun z hz => f2 z hz (fun y hy => nomatch hy)) ⟨Nat.le_trans hS.1 f1, fun q h1 h2 => (f2 q (Nat.lt_of_lt_of_le h1 hS.1) (fun z hz => nomatch hz)).trans (hS.2.1 q h1 h2), hS.2.2⟩ _ rfl X6
  refine ⟨t, st1 _ ?_, b1⟩
  show Steps p.tables e below (T1.setTop { method := m, pc := pc + 3, locals := ls, stack := .ref T.heap.size :: rest, locked := none }) _
  jvm_step X₁.here [X₁.here.top, hexec, d3', Value.category]
  exact X₁.ldcString hexec (own := own) (text := text) (index := is) (a := sa) hown' hstr'.1 hstr'.2
    (g := { method := m, pc := pc + 4, locals := ls, stack := .ref T.heap.size :: .ref T.heap.size :: rest, locked := none }) rfl d4' _ (st _ a1)
theorem vx_athrow {cc : ByteArray} {pc : Nat} (hexec : p.tables.exec = Jvm.exec) (hb : c.code = cc) {q : Addr} (hdg : decode cc pc = .ok (.athrow, 1)) (k : vx_W p l e R s m args below meth c H locs cells slots Q (F0 m pc ls rest) q) : W p l e R s m args below meth c H locs cells slots Q (F0 m pc ls (.ref q :: rest)) := by
  intro T hT X
  obtain ⟨t, st, hq⟩ := k T hT X
  refine ⟨t, ?_, hq⟩
  have hdg' : decode c.code pc = .ok (.athrow, 1) := by rw [hb]; exact hdg
  jvm_step X.here [X.here.top, hexec, hdg', athrow.wp_sem]
  exact st
end TX2
end
section
noncomputable def b_X11_glove_0 (told_gloves : Int32) (told_house : Nat → Int32) (told_after : Nat → Int32) (now_cells : Nat → Int32) (v1 : Int32) (v2 : Int32) : Option (Int32 × Int32) :=
  ob1 (f_X5_hasGlove told_gloves v1) fun r_1 =>
  if r_1 = (0 : Int32) then
    some ((0 : Int32), (1 : Int32))
  else
    if v2 < (0 : Int32) then
      some ((0 : Int32), (1 : Int32))
    else
      if v2 ≤ (5 : Int32) then
        if v2 = (0 : Int32) then
          gd (inB v1 6) <|
          some ((told_house v1.toNatClampNeg), (0 : Int32))
        else
        if v2 = (1 : Int32) then
          ob1 (f_X9_free now_cells v1) fun r_4 =>
          some (r_4, (0 : Int32))
        else
        if v2 = (2 : Int32) then
          ob1 (f_X9_stuffed now_cells v1) fun r_6 =>
          some (r_6, (0 : Int32))
        else
        if v2 = (3 : Int32) then
          gd (inB v1 6) <|
          some ((told_after v1.toNatClampNeg), (0 : Int32))
        else
        if v2 = (4 : Int32) then
          ob1 (f_X9_hasMet now_cells v1) fun r_9 =>
          if r_9 = (0 : Int32) then
            some ((0 : Int32), (0 : Int32))
          else
            some ((1 : Int32), (0 : Int32))
        else
        ob1 (f_X9_knows now_cells v1) fun r_11 =>
        some (r_11, (0 : Int32))
      else
        some ((0 : Int32), (1 : Int32))
noncomputable def f_X11_glove (told_gloves : Int32) (told_house : Nat → Int32) (told_after : Nat → Int32) (now_cells : Nat → Int32) (p1 : Int32) (p2 : Int32) : Option (Int32 × Int32) := b_X11_glove_0 told_gloves told_house told_after now_cells p1 p2
/-! the class's glove: it returns or throws -/
abbrev nsE : String := "java/util/NoSuchElementException"
abbrev txG : String := "no such glove, or nothing such of it"
abbrev nmG : List String := ["java/lang/RuntimeException", "java/lang/Exception"]
abbrev atG : List Cond := vx_atX RX11 163 "java/util/NoSuchElementException" 13 prog_23_method_4_code ["java/lang/RuntimeException", "java/lang/Exception"]
def bdG : List Cond := atG.filter (fun w => !goodWord w)
def Thr (A : Nat → Prop) (U : State) : Prop := vx_Zq Bundle.tN "UNASSIGNED_STACK" Bundle.steD A U U.heap ∧ vx_Zq Bundle.tN "SUPPRESSED_SENTINEL" Bundle.listD A U U.heap ∧ (∃ sa, vk_R RX11 161 txG sa U) ∧ ∀ w ∈ bdG, ∀ a : Array Value, w.before a U = true
def PreG (sx : List sx_T) (D : va_G) (tys : List (ClassId × FieldType)) (wc : va_W) (sz : Nat) (U : State) : Prop := PreC sx D tys wc sz U ∧ Thr (va_A wc sz) U
def QcG (D : va_G) (A : Nat → Prop) (r0 tr0 : Int32) (w1 : va_W) : Array Value → State → Outcome → State → Prop := va_Qi (fun r (_ : Unit) => r = r0 ∧ tr0 = 0) (fun _ t => va_P D vwCl w1 t.heap) A
def XcG (D : va_G) (A : Nat → Prop) (tr0 : Int32) (w1 : va_W) : String → State → State → Prop := vx_X (fun (_ : Unit) => tr0 = 1) (fun E _ t => E = nsE ∧ va_P D vwCl w1 t.heap) A
def CtG (l : Launch) (y : MethodName) (wsM : List Cond) (rm : Room) (sx : List sx_T) (D : va_G) (tys : List (ClassId × FieldType)) (av : List Value) (wc : va_W) (r0 tr0 : Int32) : Prop := ∀ sz : Nat, vx_Met l y wsM rm (va_Pc av (PreG sx D tys wc sz)) (QcG D (va_A wc sz) r0 tr0 wc) (XcG D (va_A wc sz) tr0 wc) 1 6 (va_A wc sz)
theorem xg0 : decode prog_23_method_4_code 0 = .ok (.aload_n 0, 1) := by decide +kernel
theorem xg1 : decode prog_23_method_4_code 1 = .ok (.aload_n 1, 1) := by decide +kernel
theorem xg2 : decode prog_23_method_4_code 2 = .ok (.invokespecial 13, 3) := by decide +kernel
theorem xg5 : decode prog_23_method_4_code 5 = .ok (.return_, 1) := by decide +kernel
theorem goodG : (Cond.classLink RX11 159 "java/util/NoSuchElementException" :: Cond.initialized "java/util/NoSuchElementException" :: atG).all vx_ot = true := by decide +kernel
theorem lkG0 : Cond.classLink RX11 159 "java/util/NoSuchElementException" ∈ wsX11_glove := List.mem_cons_of_mem _ (bi_wsL_law0_r24 _ (List.mem_of_getElem? (i := 3) rfl))
theorem lkG1 : Cond.initialized "java/util/NoSuchElementException" ∈ wsX11_glove := List.mem_cons_of_mem _ (bi_wsL_law0_r24 _ (List.mem_of_getElem? (i := 4) rfl))
abbrev rm_X11_glove : Room := { frames := 8, cells := 1, slots := 6, locals := 100 }
theorem in_X11_glove_X11 : ∀ w ∈ u_ws RX11 TX11 18, w ∈ wsX11_glove := fun w h => List.mem_cons_of_mem _ (bi_wsX110 w h)
theorem in_X11_glove_X5 : ∀ w ∈ u_ws RX5 TX5 10, w ∈ wsX11_glove := fun w h => List.mem_cons_of_mem _ (bi_wsX50 w h)
theorem lk_X11_glove_0 : Cond.fieldLink RX11 35 "GloveHouses" "told" "LGloveHouses$Peace;" ∈ wsX11_glove := List.mem_cons_of_mem _ (bi_wsL_law0_r2 _ (List.mem_of_getElem? (i := 5) rfl))
theorem lk_X11_glove_1 : Cond.fieldLink RX11 166 "GloveHouses$Peace" "house" "[I" ∈ wsX11_glove := List.mem_cons_of_mem _ (bi_wsL_law0_r24 _ (List.mem_of_getElem? (i := 5) rfl))
theorem lk_X11_glove_2 : Cond.fieldLink RX11 51 "GloveHouses" "now" "LGloveHouses$State;" ∈ wsX11_glove := List.mem_cons_of_mem _ (bi_wsL_law0_r2 _ (List.mem_of_getElem? (i := 13) rfl))
theorem lk_X11_glove_3 : Cond.fieldLink RX11 175 "GloveHouses$Peace" "after" "[I" ∈ wsX11_glove := List.mem_cons_of_mem _ (bi_wsL_law0_r24 _ (List.mem_of_getElem? (i := 6) rfl))
section GL
variable {p : Program} {l : Launch} {e : Env} {R : Room} {s : State} {m : MethodId} {args : Array Value} {below : List Frame} {meth : Method} {c : Code} {H : Heap} {locs : List Loc}
variable {own : String} {Ts : List Cond} {cc : ByteArray} {nL : Nat} {D : va_G} {A : Nat → Prop} {pc : Nat} {ls : Array Slot}
theorem retG (C : Cx p s m args meth c own Ts cc nL (some .int)) {r0 tr0 v : Int32} {w1 : va_W} (hw : Wo D A s w1 H locs) (hdg : decode cc pc = .ok (.ireturn, 1)) (hv : v = r0) (ht : tr0 = 0) : W p l e R s m args below meth c H locs 0 0 (vx_MQ below (QcG D A r0 tr0 w1) (XcG D A tr0 w1) args s 1 6 A) (F0 m pc ls [.int v]) := by
  obtain ⟨hx, hb, hml, hown, hts, hr, hlk⟩ := C
  obtain ⟨hP, hD, hS⟩ := hw
  subst hv
  refine vx_ret ?_
  refine W.widen (k := 1) (n := 6) (Nat.zero_le _) (Nat.zero_le _) ?_
  exact W.iret hx hb hr (fun t ht9 hW => ⟨⟨v, (), rfl, ⟨rfl, ht⟩, by show va_P _ _ _ t.heap; rw [ht9]; exact hP⟩, hS.F ht9⟩) hS.2.2 hdg hlk
theorem thG (C : Cx p s m args meth c RX11 wsX11_glove cX11_glove 3 (some .int)) (hl0 : l.stackTraces = false) (hT : Thr A s) (hex : ∀ x ∈ c.exceptionTable.toList, False) {r0 : Int32} {w1 : va_W} (hw : Wo D A s w1 H locs) (hsz : ls.size = c.maxLocals) : W p l e rm_X11_glove s m args below meth c H locs 0 0 (vx_MQ below (QcG D A r0 1 w1) (XcG D A 1 w1) args s 1 6 A) (F0 m 20 ls []) := by
  obtain ⟨hx, hb, hml, hown, hts, hr, hlk⟩ := C
  obtain ⟨hU, hN, ⟨sa, hstr⟩, hbad⟩ := hT
  obtain ⟨hP, hD, hS⟩ := hw
  refine vx_makeSX hx hb hl0 xg0 xg1 xg2 xg5 (own := RX11) (cls := nsE) (text := txG) (names := nmG) (ik := 159) (is := 161) (ic := 163) (A := A) hown (by decide +kernel) (by decide +kernel) (hts _ lkG0) (hts _ lkG1) hstr (vx_hat (fun w hw9 => hts w (List.mem_cons_of_mem _ (List.mem_append_right _ hw9))) (fun w hw9 => hw9) (fun w hw9 => hbad w hw9 args)) (fun w hw9 => List.all_eq_true.mp goodG w hw9) hU hN hS hsz dX11_glove_20 dX11_glove_23 dX11_glove_24 dX11_glove_26 (Nat.le_of_ble_eq_true rfl) (Nat.le_of_ble_eq_true rfl) (Nat.le_of_ble_eq_true rfl) (Nat.le_of_ble_eq_true rfl) (fun q ce H1 h1 h2 h3 h4 h5 h6 => ?_)
  refine vx_athrow hx hb dX11_glove_29 ?_
  exact vx_out (E := nsE) (fun x hxx => absurd (hex x hxx) id) hlk h1 h2 h3 (fun t ht hvm => ⟨(), rfl, ⟨rfl, by show va_P _ _ _ t.heap; rw [ht]; exact hP.kept (fun k x hx9 => h5 x.1 ((hP k x hx9).lt))⟩, h6.F ht⟩) h6.2.2 (Nat.le_refl _) (Nat.le_refl _)
end GL
set_option maxHeartbeats 4000000 in
set_option maxRecDepth 100000 in
theorem q_X11_glove_0 {p : Program} {l : Launch} {e : Env} {s : State} {m : MethodId} {args : Array Value} {below : List Frame} {meth : Method} {c : Code} {sx : List sx_T} {D : va_G} {cI cZ cO : ClassId} {A : Nat → Prop} (C : Cx p s m args meth c RX11 wsX11_glove cX11_glove 3 (some .int)) (K : Kx sx D (tyL cI cZ cO) A s) (hl0 : l.stackTraces = false) (hT : Thr A s) (hex : ∀ x ∈ c.exceptionTable.toList, False) (a_x : Nat) (a_tape : Nat) (a_pr : Nat) (a_lr : Nat) (a_told : Nat) (a_laws : Nat) (a_now : Nat) (a_apart : Nat) (a_book : Nat) (a_acts : Nat) (a_imS : Nat) (a_imB : Nat) (a_sg : Nat) (a_mt : Nat) (a_qu : Nat) (a_x_refused : Nat) (a_told_house : Nat) (a_told_free : Nat) (a_told_stuffed : Nat) (a_told_after : Nat) (a_told_weight : Nat) (a_told_need : Nat) (a_now_cells : Nat) (x_imaged : Int32) (x_spiteNow : Int32) (x_drawn : Int64) (told_gloves : Int32) (told_matters : Int32) (told_pride : Int32) (told_coins : Int32) (told_house : Nat → Int32) (told_after : Nat → Int32) (now_cells : Nat → Int32) (r0 : Int32) (tr0 : Int32)    (v1 : Int32) (v2 : Int32) {H : Heap} {locs : List Loc} {ls : Array Slot} (hf : b_X11_glove_0 told_gloves told_house told_after now_cells  v1 v2 = some (r0, tr0)) (hw : Wo D A s [(oX11 a_x (.ref a_tape) (.ref a_pr) (.ref a_lr) (.ref a_told) (.ref a_laws) (.ref a_now) (.ref a_apart) (.ref a_book) (.ref a_acts) (.ref a_imS) (.ref a_imB) (.ref a_sg) (.ref a_mt) (.ref a_qu) (.ref a_x_refused) (.int x_imaged) (.int x_spiteNow) (.long x_drawn)), (oX5 a_told (.int told_gloves) (.int told_matters) (.int told_pride) (.int told_coins) (.ref a_told_house) (.ref a_told_free) (.ref a_told_stuffed) (.ref a_told_after) (.ref a_told_weight) (.ref a_told_need)), (a_told_house, .inl (cI, 6, .inl told_house)), (a_told_after, .inl (cI, 6, .inl told_after)), (oX9 a_now (.ref a_now_cells) (.ref a_told) (.ref a_laws)), (a_now_cells, .inl (cI, 69, .inl now_cells))] H locs) (hl : lv_has ls 3 [(0, .ref a_x), (1, .int v1), (2, .int v2)]) : W p l e rm_X11_glove s m args below meth c H locs 0 0 (vx_MQ below (QcG D A r0 tr0 [(oX11 a_x (.ref a_tape) (.ref a_pr) (.ref a_lr) (.ref a_told) (.ref a_laws) (.ref a_now) (.ref a_apart) (.ref a_book) (.ref a_acts) (.ref a_imS) (.ref a_imB) (.ref a_sg) (.ref a_mt) (.ref a_qu) (.ref a_x_refused) (.int x_imaged) (.int x_spiteNow) (.long x_drawn)), (oX5 a_told (.int told_gloves) (.int told_matters) (.int told_pride) (.int told_coins) (.ref a_told_house) (.ref a_told_free) (.ref a_told_stuffed) (.ref a_told_after) (.ref a_told_weight) (.ref a_told_need)), (a_told_house, .inl (cI, 6, .inl told_house)), (a_told_after, .inl (cI, 6, .inl told_after)), (oX9 a_now (.ref a_now_cells) (.ref a_told) (.ref a_laws)), (a_now_cells, .inl (cI, 69, .inl now_cells))]) (XcG D A tr0 [(oX11 a_x (.ref a_tape) (.ref a_pr) (.ref a_lr) (.ref a_told) (.ref a_laws) (.ref a_now) (.ref a_apart) (.ref a_book) (.ref a_acts) (.ref a_imS) (.ref a_imB) (.ref a_sg) (.ref a_mt) (.ref a_qu) (.ref a_x_refused) (.int x_imaged) (.int x_spiteNow) (.long x_drawn)), (oX5 a_told (.int told_gloves) (.int told_matters) (.int told_pride) (.int told_coins) (.ref a_told_house) (.ref a_told_free) (.ref a_told_stuffed) (.ref a_told_after) (.ref a_told_weight) (.ref a_told_need)), (a_told_house, .inl (cI, 6, .inl told_house)), (a_told_after, .inl (cI, 6, .inl told_after)), (oX9 a_now (.ref a_now_cells) (.ref a_told) (.ref a_laws)), (a_now_cells, .inl (cI, 69, .inl now_cells))]) args s 1 6 A) (F0 m 0 ls []) := by
  obtain ⟨hx, hb, hml, hown, hts, hr, hlk⟩ := id C
  obtain ⟨hK, hX, hA⟩ := id K
  unfold b_X11_glove_0 at hf
  refine lv_aload_n hx hb dX11_glove_0 rfl (lv_at hl 0 rfl) ?_
  refine va_get (ci := 11) (v := .ref a_told) (C := RX11) (T := TX11) (N := 18) hx hb hts in_X11_glove_X11 hown hK hw.1 0 rfl rfl 3 (by decide) (hts _ lk_X11_glove_0) (fun _ h9 => h9) rfl dX11_glove_1 ?_
  refine lv_iload_n hx hb dX11_glove_4 rfl (lv_at hl 1 rfl) ?_
  obtain ⟨r_1, hg_2, hf⟩ := ob1_some hf
  refine cl_ViA (As := [.int v1]) (rest := []) C K hw (k_X5_hasGlove a_told a_told_house a_told_free a_told_stuffed a_told_after a_told_weight a_told_need told_gloves told_matters told_pride told_coins r_1 v1 hg_2) [1] rfl (by decide) rfl rfl (ci := 5) (j := 1) rfl rfl (cwV 1 hts gX11_glove_X5_hasGlove rfl rfl rfl (by decide +kernel) ⟨Nat.le_of_ble_eq_true rfl, Nat.le_of_ble_eq_true rfl⟩) rfl hl rfl (Nat.le_of_ble_eq_true rfl) dX11_glove_5 ⟨Nat.zero_le _, Nat.zero_le _⟩ (fun H locs hw => ?_)
  have hw : Wo D A s [(oX11 a_x (.ref a_tape) (.ref a_pr) (.ref a_lr) (.ref a_told) (.ref a_laws) (.ref a_now) (.ref a_apart) (.ref a_book) (.ref a_acts) (.ref a_imS) (.ref a_imB) (.ref a_sg) (.ref a_mt) (.ref a_qu) (.ref a_x_refused) (.int x_imaged) (.int x_spiteNow) (.long x_drawn)), (oX5 a_told (.int told_gloves) (.int told_matters) (.int told_pride) (.int told_coins) (.ref a_told_house) (.ref a_told_free) (.ref a_told_stuffed) (.ref a_told_after) (.ref a_told_weight) (.ref a_told_need)), (a_told_house, .inl (cI, 6, .inl told_house)), (a_told_after, .inl (cI, 6, .inl told_after)), (oX9 a_now (.ref a_now_cells) (.ref a_told) (.ref a_laws)), (a_now_cells, .inl (cI, 69, .inl now_cells))] H locs := hw
  refine lv_if_eq (tgt := 20) hx hb dX11_glove_8 (by decide) (fun hc => ?_) (fun hc => ?_)
  · have hf := (if_pos hc).symm.trans hf
    cases hf
    exact thG C hl0 hT hex hw (by rw [hml]; exact hl.1)
  · have hf := (if_neg hc).symm.trans hf
    refine lv_iload_n hx hb dX11_glove_11 rfl (lv_at hl 2 rfl) ?_
    refine lv_if_lt (tgt := 20) hx hb dX11_glove_12 (by decide) (fun hc => ?_) (fun hc => ?_)
    · have hf := (if_pos hc).symm.trans hf
      cases hf
      exact thG C hl0 hT hex hw (by rw [hml]; exact hl.1)
    · have hf := (if_neg hc).symm.trans hf
      refine lv_iload_n hx hb dX11_glove_15 rfl (lv_at hl 2 rfl) ?_
      refine lv_iconst (v := (5 : Int32)) hx hb dX11_glove_16 (by decide) ?_
      refine lv_icmp_le (tgt := 30) hx hb dX11_glove_17 (by decide) (fun hc => ?_) (fun hc => ?_)
      · have hf := (if_pos hc).symm.trans hf
        refine lv_iload_n hx hb dX11_glove_30 rfl (lv_at hl 2 rfl) ?_
        by_cases h0 : v2 = (0 : Int32)
        · have hf := (if_pos h0).symm.trans hf
          refine lv_tableIn (tgt := 64) hx hb dX11_glove_31 (by rw [h0]; decide) (by rw [h0]; decide) (by rw [h0]; rfl) (by decide) ?_
          refine lv_aload_n hx hb dX11_glove_64 rfl (lv_at hl 0 rfl) ?_
          refine va_get (ci := 11) (v := .ref a_told) (C := RX11) (T := TX11) (N := 18) hx hb hts in_X11_glove_X11 hown hK hw.1 0 rfl rfl 3 (by decide) (hts _ lk_X11_glove_0) (fun _ h9 => h9) rfl dX11_glove_65 ?_
          refine va_get (ci := 5) (v := .ref a_told_house) (C := RX5) (T := TX5) (N := 10) hx hb hts in_X11_glove_X5 hown hK hw.1 1 rfl rfl 4 (by decide) (hts _ lk_X11_glove_1) (fun _ h9 => h9) rfl dX11_glove_68 ?_
          refine lv_iload_n hx hb dX11_glove_71 rfl (lv_at hl 1 rfl) ?_
          obtain ⟨hc_3, hf⟩ := gd_some hf
          refine va_iald hx hb hK hw.1 2 0 rfl rfl (inB_in hc_3) dX11_glove_72 ?_
          cases hf
          exact retG C hw dX11_glove_73 rfl rfl
        have hf := (if_neg h0).symm.trans hf
        by_cases h1 : v2 = (1 : Int32)
        · have hf := (if_pos h1).symm.trans hf
          refine lv_tableIn (tgt := 74) hx hb dX11_glove_31 (by rw [h1]; decide) (by rw [h1]; decide) (by rw [h1]; rfl) (by decide) ?_
          refine lv_aload_n hx hb dX11_glove_74 rfl (lv_at hl 0 rfl) ?_
          refine va_get (ci := 11) (v := .ref a_now) (C := RX11) (T := TX11) (N := 18) hx hb hts in_X11_glove_X11 hown hK hw.1 0 rfl rfl 5 (by decide) (hts _ lk_X11_glove_2) (fun _ h9 => h9) rfl dX11_glove_75 ?_
          refine lv_iload_n hx hb dX11_glove_78 rfl (lv_at hl 1 rfl) ?_
          obtain ⟨r_4, hg_5, hf⟩ := ob1_some hf
          refine cl_ViA (As := [.int v1]) (rest := []) C K hw (k_X9_free a_now a_now_cells a_told a_laws now_cells r_4 v1 hg_5) [4, 5] rfl (by decide) rfl rfl (ci := 9) (j := 4) rfl rfl (cwV 1 hts gX11_glove_X9_free rfl rfl rfl (by decide +kernel) ⟨Nat.le_of_ble_eq_true rfl, Nat.le_of_ble_eq_true rfl⟩) rfl hl rfl (Nat.le_of_ble_eq_true rfl) dX11_glove_79 ⟨Nat.zero_le _, Nat.zero_le _⟩ (fun H locs hw => ?_)
          have hw : Wo D A s [(oX11 a_x (.ref a_tape) (.ref a_pr) (.ref a_lr) (.ref a_told) (.ref a_laws) (.ref a_now) (.ref a_apart) (.ref a_book) (.ref a_acts) (.ref a_imS) (.ref a_imB) (.ref a_sg) (.ref a_mt) (.ref a_qu) (.ref a_x_refused) (.int x_imaged) (.int x_spiteNow) (.long x_drawn)), (oX5 a_told (.int told_gloves) (.int told_matters) (.int told_pride) (.int told_coins) (.ref a_told_house) (.ref a_told_free) (.ref a_told_stuffed) (.ref a_told_after) (.ref a_told_weight) (.ref a_told_need)), (a_told_house, .inl (cI, 6, .inl told_house)), (a_told_after, .inl (cI, 6, .inl told_after)), (oX9 a_now (.ref a_now_cells) (.ref a_told) (.ref a_laws)), (a_now_cells, .inl (cI, 69, .inl now_cells))] H locs := hw
          cases hf
          exact retG C hw dX11_glove_82 rfl rfl
        have hf := (if_neg h1).symm.trans hf
        by_cases h2 : v2 = (2 : Int32)
        · have hf := (if_pos h2).symm.trans hf
          refine lv_tableIn (tgt := 83) hx hb dX11_glove_31 (by rw [h2]; decide) (by rw [h2]; decide) (by rw [h2]; rfl) (by decide) ?_
          refine lv_aload_n hx hb dX11_glove_83 rfl (lv_at hl 0 rfl) ?_
          refine va_get (ci := 11) (v := .ref a_now) (C := RX11) (T := TX11) (N := 18) hx hb hts in_X11_glove_X11 hown hK hw.1 0 rfl rfl 5 (by decide) (hts _ lk_X11_glove_2) (fun _ h9 => h9) rfl dX11_glove_84 ?_
          refine lv_iload_n hx hb dX11_glove_87 rfl (lv_at hl 1 rfl) ?_
          obtain ⟨r_6, hg_7, hf⟩ := ob1_some hf
          refine cl_ViA (As := [.int v1]) (rest := []) C K hw (k_X9_stuffed a_now a_now_cells a_told a_laws now_cells r_6 v1 hg_7) [4, 5] rfl (by decide) rfl rfl (ci := 9) (j := 4) rfl rfl (cwV 1 hts gX11_glove_X9_stuffed rfl rfl rfl (by decide +kernel) ⟨Nat.le_of_ble_eq_true rfl, Nat.le_of_ble_eq_true rfl⟩) rfl hl rfl (Nat.le_of_ble_eq_true rfl) dX11_glove_88 ⟨Nat.zero_le _, Nat.zero_le _⟩ (fun H locs hw => ?_)
          have hw : Wo D A s [(oX11 a_x (.ref a_tape) (.ref a_pr) (.ref a_lr) (.ref a_told) (.ref a_laws) (.ref a_now) (.ref a_apart) (.ref a_book) (.ref a_acts) (.ref a_imS) (.ref a_imB) (.ref a_sg) (.ref a_mt) (.ref a_qu) (.ref a_x_refused) (.int x_imaged) (.int x_spiteNow) (.long x_drawn)), (oX5 a_told (.int told_gloves) (.int told_matters) (.int told_pride) (.int told_coins) (.ref a_told_house) (.ref a_told_free) (.ref a_told_stuffed) (.ref a_told_after) (.ref a_told_weight) (.ref a_told_need)), (a_told_house, .inl (cI, 6, .inl told_house)), (a_told_after, .inl (cI, 6, .inl told_after)), (oX9 a_now (.ref a_now_cells) (.ref a_told) (.ref a_laws)), (a_now_cells, .inl (cI, 69, .inl now_cells))] H locs := hw
          cases hf
          exact retG C hw dX11_glove_91 rfl rfl
        have hf := (if_neg h2).symm.trans hf
        by_cases h3 : v2 = (3 : Int32)
        · have hf := (if_pos h3).symm.trans hf
          refine lv_tableIn (tgt := 92) hx hb dX11_glove_31 (by rw [h3]; decide) (by rw [h3]; decide) (by rw [h3]; rfl) (by decide) ?_
          refine lv_aload_n hx hb dX11_glove_92 rfl (lv_at hl 0 rfl) ?_
          refine va_get (ci := 11) (v := .ref a_told) (C := RX11) (T := TX11) (N := 18) hx hb hts in_X11_glove_X11 hown hK hw.1 0 rfl rfl 3 (by decide) (hts _ lk_X11_glove_0) (fun _ h9 => h9) rfl dX11_glove_93 ?_
          refine va_get (ci := 5) (v := .ref a_told_after) (C := RX5) (T := TX5) (N := 10) hx hb hts in_X11_glove_X5 hown hK hw.1 1 rfl rfl 7 (by decide) (hts _ lk_X11_glove_3) (fun _ h9 => h9) rfl dX11_glove_96 ?_
          refine lv_iload_n hx hb dX11_glove_99 rfl (lv_at hl 1 rfl) ?_
          obtain ⟨hc_8, hf⟩ := gd_some hf
          refine va_iald hx hb hK hw.1 3 0 rfl rfl (inB_in hc_8) dX11_glove_100 ?_
          cases hf
          exact retG C hw dX11_glove_101 rfl rfl
        have hf := (if_neg h3).symm.trans hf
        by_cases h4 : v2 = (4 : Int32)
        · have hf := (if_pos h4).symm.trans hf
          refine lv_tableIn (tgt := 102) hx hb dX11_glove_31 (by rw [h4]; decide) (by rw [h4]; decide) (by rw [h4]; rfl) (by decide) ?_
          refine lv_aload_n hx hb dX11_glove_102 rfl (lv_at hl 0 rfl) ?_
          refine va_get (ci := 11) (v := .ref a_now) (C := RX11) (T := TX11) (N := 18) hx hb hts in_X11_glove_X11 hown hK hw.1 0 rfl rfl 5 (by decide) (hts _ lk_X11_glove_2) (fun _ h9 => h9) rfl dX11_glove_103 ?_
          refine lv_iload_n hx hb dX11_glove_106 rfl (lv_at hl 1 rfl) ?_
          obtain ⟨r_9, hg_10, hf⟩ := ob1_some hf
          refine cl_ViA (As := [.int v1]) (rest := []) C K hw (k_X9_hasMet a_now a_now_cells a_told a_laws now_cells r_9 v1 hg_10) [4, 5] rfl (by decide) rfl rfl (ci := 9) (j := 4) rfl rfl (cwV 1 hts gX11_glove_X9_hasMet rfl rfl rfl (by decide +kernel) ⟨Nat.le_of_ble_eq_true rfl, Nat.le_of_ble_eq_true rfl⟩) rfl hl rfl (Nat.le_of_ble_eq_true rfl) dX11_glove_107 ⟨Nat.zero_le _, Nat.zero_le _⟩ (fun H locs hw => ?_)
          have hw : Wo D A s [(oX11 a_x (.ref a_tape) (.ref a_pr) (.ref a_lr) (.ref a_told) (.ref a_laws) (.ref a_now) (.ref a_apart) (.ref a_book) (.ref a_acts) (.ref a_imS) (.ref a_imB) (.ref a_sg) (.ref a_mt) (.ref a_qu) (.ref a_x_refused) (.int x_imaged) (.int x_spiteNow) (.long x_drawn)), (oX5 a_told (.int told_gloves) (.int told_matters) (.int told_pride) (.int told_coins) (.ref a_told_house) (.ref a_told_free) (.ref a_told_stuffed) (.ref a_told_after) (.ref a_told_weight) (.ref a_told_need)), (a_told_house, .inl (cI, 6, .inl told_house)), (a_told_after, .inl (cI, 6, .inl told_after)), (oX9 a_now (.ref a_now_cells) (.ref a_told) (.ref a_laws)), (a_now_cells, .inl (cI, 69, .inl now_cells))] H locs := hw
          refine lv_if_eq (tgt := 117) hx hb dX11_glove_110 (by decide) (fun hc => ?_) (fun hc => ?_)
          · have hf := (if_pos hc).symm.trans hf
            refine lv_iconst (v := (0 : Int32)) hx hb dX11_glove_117 (by decide) ?_
            cases hf
            exact retG C hw dX11_glove_118 rfl rfl
          · have hf := (if_neg hc).symm.trans hf
            refine lv_iconst (v := (1 : Int32)) hx hb dX11_glove_113 (by decide) ?_
            refine lv_goto (tgt := 118) hx hb dX11_glove_114 (by decide) ?_
            cases hf
            exact retG C hw dX11_glove_118 rfl rfl
        have hf := (if_neg h4).symm.trans hf
        refine lv_tableOut (tgt := 119) hx hb dX11_glove_31 (by have zh0 := lv_neT (a := 0) h0 (by decide); have zh1 := lv_neT (a := 1) h1 (by decide); have zh2 := lv_neT (a := 2) h2 (by decide); have zh3 := lv_neT (a := 3) h3 (by decide); have zh4 := lv_neT (a := 4) h4 (by decide); omega) (by decide) ?_
        refine lv_aload_n hx hb dX11_glove_119 rfl (lv_at hl 0 rfl) ?_
        refine va_get (ci := 11) (v := .ref a_now) (C := RX11) (T := TX11) (N := 18) hx hb hts in_X11_glove_X11 hown hK hw.1 0 rfl rfl 5 (by decide) (hts _ lk_X11_glove_2) (fun _ h9 => h9) rfl dX11_glove_120 ?_
        refine lv_iload_n hx hb dX11_glove_123 rfl (lv_at hl 1 rfl) ?_
        obtain ⟨r_11, hg_12, hf⟩ := ob1_some hf
        refine cl_ViA (As := [.int v1]) (rest := []) C K hw (k_X9_knows a_now a_now_cells a_told a_laws now_cells r_11 v1 hg_12) [4, 5] rfl (by decide) rfl rfl (ci := 9) (j := 4) rfl rfl (cwV 1 hts gX11_glove_X9_knows rfl rfl rfl (by decide +kernel) ⟨Nat.le_of_ble_eq_true rfl, Nat.le_of_ble_eq_true rfl⟩) rfl hl rfl (Nat.le_of_ble_eq_true rfl) dX11_glove_124 ⟨Nat.zero_le _, Nat.zero_le _⟩ (fun H locs hw => ?_)
        have hw : Wo D A s [(oX11 a_x (.ref a_tape) (.ref a_pr) (.ref a_lr) (.ref a_told) (.ref a_laws) (.ref a_now) (.ref a_apart) (.ref a_book) (.ref a_acts) (.ref a_imS) (.ref a_imB) (.ref a_sg) (.ref a_mt) (.ref a_qu) (.ref a_x_refused) (.int x_imaged) (.int x_spiteNow) (.long x_drawn)), (oX5 a_told (.int told_gloves) (.int told_matters) (.int told_pride) (.int told_coins) (.ref a_told_house) (.ref a_told_free) (.ref a_told_stuffed) (.ref a_told_after) (.ref a_told_weight) (.ref a_told_need)), (a_told_house, .inl (cI, 6, .inl told_house)), (a_told_after, .inl (cI, 6, .inl told_after)), (oX9 a_now (.ref a_now_cells) (.ref a_told) (.ref a_laws)), (a_now_cells, .inl (cI, 69, .inl now_cells))] H locs := hw
        cases hf
        exact retG C hw dX11_glove_127 rfl rfl
      · have hf := (if_neg hc).symm.trans hf
        cases hf
        exact thG C hl0 hT hex hw (by rw [hml]; exact hl.1)
set_option maxHeartbeats 4000000 in
set_option maxRecDepth 100000 in
theorem k_X11_glove {l : Launch} {sx : List sx_T} {D : va_G} {cI cZ cO : ClassId} (a_x : Nat) (a_tape : Nat) (a_pr : Nat) (a_lr : Nat) (a_told : Nat) (a_laws : Nat) (a_now : Nat) (a_apart : Nat) (a_book : Nat) (a_acts : Nat) (a_imS : Nat) (a_imB : Nat) (a_sg : Nat) (a_mt : Nat) (a_qu : Nat) (a_x_refused : Nat) (a_told_house : Nat) (a_told_free : Nat) (a_told_stuffed : Nat) (a_told_after : Nat) (a_told_weight : Nat) (a_told_need : Nat) (a_now_cells : Nat) (x_imaged : Int32) (x_spiteNow : Int32) (x_drawn : Int64) (told_gloves : Int32) (told_matters : Int32) (told_pride : Int32) (told_coins : Int32) (told_house : Nat → Int32) (told_after : Nat → Int32) (now_cells : Nat → Int32) (r0 : Int32) (p1 : Int32) (p2 : Int32) (tr0 : Int32) (hl0 : l.stackTraces = false) (hF : f_X11_glove told_gloves told_house told_after now_cells p1 p2 = some (r0, tr0)) : CtG l yX11_glove wsX11_glove rm_X11_glove sx D (tyL cI cZ cO) [.ref a_x, .int p1, .int p2] [(oX11 a_x (.ref a_tape) (.ref a_pr) (.ref a_lr) (.ref a_told) (.ref a_laws) (.ref a_now) (.ref a_apart) (.ref a_book) (.ref a_acts) (.ref a_imS) (.ref a_imB) (.ref a_sg) (.ref a_mt) (.ref a_qu) (.ref a_x_refused) (.int x_imaged) (.int x_spiteNow) (.long x_drawn)), (oX5 a_told (.int told_gloves) (.int told_matters) (.int told_pride) (.int told_coins) (.ref a_told_house) (.ref a_told_free) (.ref a_told_stuffed) (.ref a_told_after) (.ref a_told_weight) (.ref a_told_need)), (a_told_house, .inl (cI, 6, .inl told_house)), (a_told_after, .inl (cI, 6, .inl told_after)), (oX9 a_now (.ref a_now_cells) (.ref a_told) (.ref a_laws)), (a_now_cells, .inl (cI, 69, .inl now_cells))] r0 tr0 := by
  intro sz
  refine vx_ofW (cc := cX11_glove) (maxL := 3) (ret := (some .int)) (by decide) rfl ?_
  intro p e s m args below meth c s₁ B hml hex hv
  obtain ⟨rfl, ⟨hsz, hP, hK, hD0, hX⟩, hT⟩ := hv
  subst hsz
  have hl := lv_entry ([.ref a_x, .int p1, .int p2] : List Value) (n := 3) (Nat.le_of_ble_eq_true rfl)
  rw [lg_entry_eq]
  exact q_X11_glove_0 ⟨B.exec, B.bytes, hml, findClass_of_methodNamed B.named, atoms_spec (ws := wsX11_glove) B.pre, B.returns, B.notSynchronized⟩ ⟨hK, hX, fun q h => Or.inr h⟩ hl0 hT hex a_x a_tape a_pr a_lr a_told a_laws a_now a_apart a_book a_acts a_imS a_imB a_sg a_mt a_qu a_x_refused a_told_house a_told_free a_told_stuffed a_told_after a_told_weight a_told_need a_now_cells x_imaged x_spiteNow x_drawn told_gloves told_matters told_pride told_coins told_house told_after now_cells r0 tr0 p1 p2 hF ⟨hP, hD0.self, va_S.rf⟩ (lv_sub hl [0, 1, 2] rfl)
end
section
theorem lk_L_long : Cond.constantLong RL 93 (4294967295) ∈ wsL_law := (bi_wsL_law0_r1 _ (List.mem_of_getElem? (i := 7) rfl))
end
