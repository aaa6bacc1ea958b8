/-! THE CORE: pure words for partial answers; a world of cells; contracts that say 'this value, this world'; calls with the frame. -/
/-! static arrays -/
abbrev sx_T : Type := String × String × String × Nat × FieldType × Nat × (Nat → Int32)
def sx_X (b L : Nat) (ty : FieldType) (xs : Nat → Int32) (U : State) (H : Heap) : Prop := ∃ scr : Cell, H[b]? = some scr ∧ U.isArrayOf scr ty ∧ scr.vm ≠ .unknown ∧ scr.slots.size = L ∧ ∀ j : Nat, j < L → scr.slots[j]? = some (.int (xs j))
def sx_ok (sx : List sx_T) (A : Nat → Prop) (U : State) (H : Heap) : Prop := ∀ q ∈ sx, va_Z q.1 q.2.1 q.2.2.1 (.ref q.2.2.2.1) A U H ∧ sx_X q.2.2.2.1 q.2.2.2.2.2.1 q.2.2.2.2.1 q.2.2.2.2.2.2 U H ∧ ¬ A q.2.2.2.1
theorem sx_X.lt {b L : Nat} {ty : FieldType} {xs : Nat → Int32} {U : State} {H : Heap} (h : sx_X b L ty xs U H) : b < H.size := by
  obtain ⟨scr, h1, -⟩ := h
  exact (Array.getElem?_eq_some_iff.mp h1).1
theorem sx_ok.go {sx : List sx_T} {A B : Nat → Prop} {u U : State} {H H1 : Heap} (h : sx_ok sx A u H) (hvm : u.vm.Alike U.vm) (hq : ∀ a : Nat, a < H.size → ¬ A a → H1[a]? = H[a]?) (hAB : ∀ q, B q → A q) : sx_ok sx B U H1 := by
  intro q hm
  obtain ⟨hz, hx, hn⟩ := h q hm
  refine ⟨((hz.kept hq).narrow hAB).moved hvm, ?_, fun z => hn (hAB _ z)⟩
  have hlt := hx.lt
  obtain ⟨scr, h1, h2, h3⟩ := hx
  exact ⟨scr, by rw [hq _ hlt hn]; exact h1, State.isArrayOf_alike hvm h2, h3⟩

/-! worlds, contexts, contracts -/
abbrev tyL (cI cZ cO : ClassId) : List (ClassId × FieldType) := [(cI, .int), (cZ, .boolean), (cO, .array .int)]
abbrev rwF (rw : Nat → Nat) : Nat → Option Nat := fun i => if i < 4 then some (rw i) else none
def Cx (p : Program) (s : State) (m : MethodId) (args : Array Value) (meth : Method) (c : Code) (own : String) (Ts : List Cond) (cc : ByteArray) (nL : Nat) (ret : Option FieldType) : Prop :=
  p.tables.exec = Jvm.exec ∧ c.code = cc ∧ c.maxLocals = nL ∧ s.vm.findClass own = some m.cls ∧ (∀ w ∈ Ts, w.before args s = true) ∧ meth.sig.returnType = ret ∧ meth.locks = false
def Kx (sx : List sx_T) (D : va_G) (tys : List (ClassId × FieldType)) (A : Nat → Prop) (s : State) : Prop := va_K D vwCl tys s ∧ sx_ok sx A s s.heap ∧ ∀ q : Nat, s.heap.size ≤ q → A q
def Wo (D : va_G) (A : Nat → Prop) (s : State) (ws : va_W) (H : Heap) (locs : List Loc) : Prop := va_P D vwCl ws H ∧ va_D A ws ∧ va_S A s.heap H locs
def PreC (sx : List sx_T) (D : va_G) (tys : List (ClassId × FieldType)) (wc : va_W) (sz : Nat) (U : State) : Prop := U.heap.size = sz ∧ va_P D vwCl wc U.heap ∧ va_K D vwCl tys U ∧ va_D (fun _ => True) wc ∧ sx_ok sx (va_A wc sz) U U.heap
def QcI (D : va_G) (A : Nat → Prop) (r0 : Int32) (w1 : va_W) : Array Value → State → Outcome → State → Prop := va_Qi (fun r (_ : Unit) => r = r0) (fun _ t => va_P D vwCl w1 t.heap) A
def QcV (D : va_G) (A : Nat → Prop) (w1 : va_W) : Array Value → State → Outcome → State → Prop := va_Qv (fun (_ : Unit) => True) (fun _ t => va_P D vwCl w1 t.heap) A
def CtI (l : Launch) (y : MethodName) (wsM : List Cond) (rm : Room) (sx : List sx_T) (D : va_G) (tys : List (ClassId × FieldType)) (av : List Value) (wc : va_W) (r0 : Int32) (w1 : va_W) : Prop := ∀ sz : Nat, Met l y wsM rm (va_Pc av (PreC sx D tys wc sz)) (QcI D (va_A wc sz) r0 w1) 0 0 (va_A wc sz)
def CtV (l : Launch) (y : MethodName) (wsM : List Cond) (rm : Room) (sx : List sx_T) (D : va_G) (tys : List (ClassId × FieldType)) (av : List Value) (wc : va_W) (w1 : va_W) : Prop := ∀ sz : Nat, Met l y wsM rm (va_Pc av (PreC sx D tys wc sz)) (QcV D (va_A wc sz) w1) 0 0 (va_A wc sz)
theorem PreC.blind {sx : List sx_T} {D : va_G} {tys : List (ClassId × FieldType)} {av : List Value} {wc : va_W} {sz : Nat} : FrameBlind (va_Pc av (PreC sx D tys wc sz)) := fun a U g mk q => by
  obtain ⟨q0, q1, qP, qK, qD, qX⟩ := q
  exact ⟨q0, q1, qP, va_K.moved (u := U) (U := U.calling g mk a) (Vm.Alike.refl U.vm) qK, qD, sx_ok.go (u := U) (U := U.calling g mk a) qX (Vm.Alike.refl U.vm) (fun _ _ _ => rfl) (fun _ h => h)⟩

/-! a world with some cells put anew -/
def vset (ws : va_W) : List Nat → va_W → va_W
  | i :: is, c :: cs => vset (ws.set i c) is cs
  | _, _ => ws
theorem vset_get : ∀ {is : List Nat} {ws cs : va_W} {k : Nat} {q : Nat × va_E}, is.length = cs.length → (vset ws is cs)[k]? = some q → (∃ j : Nat, is[j]? = some k ∧ cs[j]? = some q) ∨ (k ∉ is ∧ ws[k]? = some q)
  | [], ws, cs, k, q, _, h => Or.inr ⟨List.not_mem_nil, by cases cs <;> exact h⟩
  | i :: is, ws, [], k, q, hl, h => by cases hl
  | i :: is, ws, c :: cs, k, q, hl, h => by
    rcases vset_get (is := is) (cs := cs) (Nat.succ.inj hl) h with ⟨j, h1, h2⟩ | ⟨h1, h2⟩
    · exact Or.inl ⟨j + 1, h1, h2⟩
    · by_cases hk : i = k
      · subst hk
        rw [List.getElem?_set] at h2
        by_cases hlt : i < ws.length
        · simp [hlt] at h2
          subst h2
          exact Or.inl ⟨0, rfl, rfl⟩
        · simp [hlt] at h2
      · rw [List.getElem?_set_ne hk] at h2
        exact Or.inr ⟨fun hm => by rcases List.mem_cons.mp hm with e | e; exact hk e.symm; exact h1 e, h2⟩
/-! the same for rising places, one step a cell -/
def vsetA : Nat → va_W → List Nat → va_W → va_W
  | k, c :: ws, i :: is, d :: ds => if k = i then d :: vsetA (k + 1) ws is ds else c :: vsetA (k + 1) ws (i :: is) (d :: ds)
  | _, ws, _, _ => ws
def ascB : List Nat → Bool
  | a :: b :: l => Nat.blt a b && ascB (b :: l)
  | _ => true
theorem ascB_lt : ∀ {a : Nat} {l : List Nat}, ascB (a :: l) = true → ascB l = true ∧ ∀ i ∈ l, a < i
  | a, [], _ => ⟨rfl, fun i h => absurd h List.not_mem_nil⟩
  | a, b :: l, h => by
    have h1 : Nat.blt a b = true ∧ ascB (b :: l) = true := by
      have : (Nat.blt a b && ascB (b :: l)) = true := h
      simpa using this
    have hab : a < b := by have := h1.1; simpa [Nat.blt_eq] using this
    refine ⟨h1.2, fun i hi => ?_⟩
    rcases List.mem_cons.mp hi with e | e
    · rw [e]; exact hab
    · exact Nat.lt_trans hab ((ascB_lt h1.2).2 i e)
theorem vsetA_get : ∀ {ws : va_W} {is : List Nat} {cs : va_W} {k j : Nat} {q : Nat × va_E}, is.length = cs.length → ascB is = true → (∀ i ∈ is, k ≤ i) → (vsetA k ws is cs)[j]? = some q → (∃ t : Nat, is[t]? = some (k + j) ∧ cs[t]? = some q) ∨ (k + j ∉ is ∧ ws[j]? = some q)
  | [], is, cs, k, j, q, _, _, _, h => by
    have : (vsetA k [] is cs) = [] := by cases is <;> cases cs <;> rfl
    rw [this] at h
    cases h
  | c :: ws, [], cs, k, j, q, _, _, _, h => by
    have e9 : vsetA k (c :: ws) [] cs = c :: ws := by cases cs <;> rfl
    rw [e9] at h
    exact Or.inr ⟨List.not_mem_nil, h⟩
  | c :: ws, i :: is, [], k, j, q, hl, _, _, h => by cases hl
  | c :: ws, i :: is, d :: ds, k, j, q, hl, ha, hk, h => by
    obtain ⟨ha', hgt⟩ := ascB_lt ha
    have hki := hk i List.mem_cons_self
    have e : vsetA k (c :: ws) (i :: is) (d :: ds) = if k = i then d :: vsetA (k + 1) ws is ds else c :: vsetA (k + 1) ws (i :: is) (d :: ds) := rfl
    rw [e] at h
    by_cases hc : k = i
    · rw [if_pos hc] at h
      cases j with
      | zero => cases h; exact Or.inl ⟨0, by rw [hc]; rfl, rfl⟩
      | succ j =>
        rcases vsetA_get (ws := ws) (is := is) (cs := ds) (k := k + 1) (j := j) (Nat.succ.inj hl) ha' (fun x hx => by have := hgt x hx; omega) h with ⟨t, h1, h2⟩ | ⟨h1, h2⟩
        · exact Or.inl ⟨t + 1, by rw [show k + (j + 1) = k + 1 + j by omega]; exact h1, h2⟩
        · refine Or.inr ⟨fun hm => ?_, h2⟩
          rcases List.mem_cons.mp hm with e9 | e9
          · omega
          · exact h1 (by rw [show k + 1 + j = k + (j + 1) by omega]; exact e9)
    · rw [if_neg hc] at h
      cases j with
      | zero =>
        cases h
        refine Or.inr ⟨fun hm => ?_, rfl⟩
        rcases List.mem_cons.mp hm with e9 | e9
        · omega
        · have := hgt _ e9; omega
      | succ j =>
        rcases vsetA_get (ws := ws) (is := i :: is) (cs := d :: ds) (k := k + 1) (j := j) hl ha (fun x hx => by
            rcases List.mem_cons.mp hx with e9 | e9
            · omega
            · have := hgt x e9; omega) h with ⟨t, h1, h2⟩ | ⟨h1, h2⟩
        · exact Or.inl ⟨t, by rw [show k + (j + 1) = k + 1 + j by omega]; exact h1, h2⟩
        · exact Or.inr ⟨fun hm => h1 (by rw [show k + 1 + j = k + (j + 1) by omega]; exact hm), h2⟩
theorem pick_at {ws wc : va_W} {is : List Nat} (hC : is.map (fun i => ws[i]?) = wc.map some) {k : Nat} {q : Nat × va_E} (h : wc[k]? = some q) : ∃ i, is[k]? = some i ∧ ws[i]? = some q := by
  have h1 : (is.map (fun i => ws[i]?))[k]? = some (some q) := by rw [hC, List.getElem?_map, h]; rfl
  rw [List.getElem?_map] at h1
  cases hi : is[k]? with
  | none => rw [hi] at h1; cases h1
  | some i => rw [hi] at h1; exact ⟨i, rfl, Option.some.inj h1⟩
theorem pick_at' {ws wc : va_W} {is : List Nat} (hC : is.map (fun i => ws[i]?) = wc.map some) {j k : Nat} (h : is[j]? = some k) : ∃ q, wc[j]? = some q ∧ ws[k]? = some q := by
  have h1 : (is.map (fun i => ws[i]?))[j]? = some (ws[k]?) := by rw [List.getElem?_map, h]; rfl
  rw [hC, List.getElem?_map] at h1
  cases hi : wc[j]? with
  | none => rw [hi] at h1; cases h1
  | some q => rw [hi] at h1; exact ⟨q, rfl, (Option.some.inj h1).symm⟩
theorem Wo.callG {D : va_G} {A : Nat → Prop} {s : State} {ws wc w1 : va_W} {H H1 : Heap} {locs locs1 : List Loc} (hw : Wo D A s ws H locs) (is : List Nat) {wn : va_W} (hget : ∀ (k : Nat) (q : Nat × va_E), wn[k]? = some q → (∃ j : Nat, is[j]? = some k ∧ w1[j]? = some q) ∨ (k ∉ is ∧ ws[k]? = some q)) (hC : is.map (fun i => ws[i]?) = wc.map some) (h1 : w1.map Prod.fst = wc.map Prod.fst) (hP1 : va_P D vwCl w1 H1) (hk : ∀ q : Nat, q < H.size → ¬ va_A wc H.size q → H1[q]? = H[q]?) (hS1 : va_S A s.heap H1 locs1) : Wo D A s wn H1 locs1 := by
  obtain ⟨hP, hD, -⟩ := hw
  have key : ∀ (k : Nat) (q : Nat × va_E), wn[k]? = some q → ∃ q', ws[k]? = some q' ∧ q'.1 = q.1 := by
    intro k q h
    rcases hget _ _ h with ⟨j, e1, e2⟩ | ⟨-, e2⟩
    · obtain ⟨q', g1, g2⟩ := pick_at' hC e1
      refine ⟨q', g2, ?_⟩
      have a1 : (w1.map Prod.fst)[j]? = some q.1 := by rw [List.getElem?_map, e2]; rfl
      rw [h1, List.getElem?_map, g1] at a1
      exact Option.some.inj a1
    · exact ⟨q, e2, rfl⟩
  refine ⟨fun k q h => ?_, ⟨fun i j x y hi hj hxy => ?_, fun k q h => ?_⟩, hS1⟩
  · rcases hget _ _ h with ⟨j, e1, e2⟩ | ⟨e1, e2⟩
    · exact hP1 j q e2
    · have hlt := (hP k q e2).lt
      refine (hP k q e2).kept (hk q.1 hlt ?_)
      rintro (⟨k2, e, h9⟩ | h9)
      · obtain ⟨i, g1, g2⟩ := pick_at hC h9
        have := hD.1 k i q (q.1, e) e2 g2 rfl
        subst this
        exact e1 (List.mem_of_getElem? g1)
      · omega
  · obtain ⟨x', a1, a2⟩ := key i x hi
    obtain ⟨y', b1, b2⟩ := key j y hj
    exact hD.1 i j x' y' a1 b1 (by rw [a2, b2]; exact hxy)
  · obtain ⟨q', a1, a2⟩ := key k q h
    rw [← a2]
    exact hD.2 k q' a1

theorem Wo.call {D : va_G} {A : Nat → Prop} {s : State} {ws wc w1 : va_W} {H H1 : Heap} {locs locs1 : List Loc} (hw : Wo D A s ws H locs) (is : List Nat) (hC : is.map (fun i => ws[i]?) = wc.map some) (h1 : w1.map Prod.fst = wc.map Prod.fst) (hP1 : va_P D vwCl w1 H1) (hk : ∀ q : Nat, q < H.size → ¬ va_A wc H.size q → H1[q]? = H[q]?) (hS1 : va_S A s.heap H1 locs1) : Wo D A s (vset ws is w1) H1 locs1 := by
  have hlc : is.length = wc.length := by have := congrArg List.length hC; simpa using this
  have hl1 : w1.length = wc.length := by have := congrArg List.length h1; simpa using this
  have hl : is.length = w1.length := by rw [hlc, hl1]
  exact hw.callG is (fun k q h => vset_get hl h) hC h1 hP1 hk hS1
theorem Wo.callA {D : va_G} {A : Nat → Prop} {s : State} {ws wc w1 : va_W} {H H1 : Heap} {locs locs1 : List Loc} (hw : Wo D A s ws H locs) (is : List Nat) (ha : ascB is = true) (hC : is.map (fun i => ws[i]?) = wc.map some) (h1 : w1.map Prod.fst = wc.map Prod.fst) (hP1 : va_P D vwCl w1 H1) (hk : ∀ q : Nat, q < H.size → ¬ va_A wc H.size q → H1[q]? = H[q]?) (hS1 : va_S A s.heap H1 locs1) : Wo D A s (vsetA 0 ws is w1) H1 locs1 := by
  have hlc : is.length = wc.length := by have := congrArg List.length hC; simpa using this
  have hl1 : w1.length = wc.length := by have := congrArg List.length h1; simpa using this
  have hl : is.length = w1.length := by rw [hlc, hl1]
  exact hw.callG is (fun k q h => by
    rcases vsetA_get hl ha (fun _ _ => Nat.zero_le _) h with ⟨t, h1, h2⟩ | ⟨h1, h2⟩
    · exact Or.inl ⟨t, by rw [h1, Nat.zero_add], h2⟩
    · exact Or.inr ⟨by rw [Nat.zero_add] at h1; exact h1, h2⟩) hC h1 hP1 hk hS1
section CR
variable {p : Program} {l : Launch} {e : Env} {R : Room} {s : State} {m : MethodId} {args : Array Value} {below : List Frame} {meth : Method} {c : Code} {H : Heap} {locs : List Loc} {cells slots : Nat} {Q : State → Prop}
variable {own : String} {Ts : List Cond} {cc : ByteArray} {nL : Nat} {ret : Option FieldType} {sx : List sx_T} {D : va_G} {tys : List (ClassId × FieldType)} {A : Nat → Prop} {ws : va_W} {pc : Nat} {ls : Array Slot} {rest st0 : List Value}
theorem ctI_of {y : MethodName} {wsM ws' : List Cond} {rm : Room} {av : List Value} {wc w1 : va_W} {r0 : Int32} {maxL : Nat} (hy : plainName y.cls = true) (hw : wsM = Cond.code y cc maxL ret :: ws') (hlen : (lg_sl av).length ≤ maxL)
    (body : ∀ (p : Program) (e : Env) (s : State) (m : MethodId) (below : List Frame) (meth : Method) (c : Code) (A : Nat → Prop) (ls : Array Slot), Cx p s m av.toArray meth c y.cls wsM cc maxL ret → Kx sx D tys A s → Wo D A s wc s.heap [] → lv_has ls maxL (lv_args 0 av) → W p l e rm s m av.toArray below meth c s.heap [] 0 0 (MQ below (QcI D A r0 w1) av.toArray s 0 0 A) (F0 m 0 ls [])) : CtI l y wsM rm sx D tys av wc r0 w1 := by
  intro sz
  refine Met.ofW (cc := cc) (maxL := maxL) (ret := ret) hy hw ?_
  intro p e s m args below meth c s₁ B hml hv
  obtain ⟨rfl, hsz, hP, hK, hD0, hX⟩ := hv
  subst hsz
  have hl := lv_entry av hlen
  rw [lg_entry_eq]
  exact body p e s m below meth c (va_A wc s.heap.size) _ ⟨B.exec, B.bytes, hml, findClass_of_methodNamed B.named, atoms_spec (ws := wsM) B.pre, B.returns, B.notSynchronized⟩ ⟨hK, hX, fun q h => Or.inr h⟩ ⟨hP, hD0.self, va_S.rf⟩ hl
theorem ctV_of {y : MethodName} {wsM ws' : List Cond} {rm : Room} {av : List Value} {wc w1 : va_W} {maxL : Nat} (hy : plainName y.cls = true) (hw : wsM = Cond.code y cc maxL ret :: ws') (hlen : (lg_sl av).length ≤ maxL)
    (body : ∀ (p : Program) (e : Env) (s : State) (m : MethodId) (below : List Frame) (meth : Method) (c : Code) (A : Nat → Prop) (ls : Array Slot), Cx p s m av.toArray meth c y.cls wsM cc maxL ret → Kx sx D tys A s → Wo D A s wc s.heap [] → lv_has ls maxL (lv_args 0 av) → W p l e rm s m av.toArray below meth c s.heap [] 0 0 (MQ below (QcV D A w1) av.toArray s 0 0 A) (F0 m 0 ls [])) : CtV l y wsM rm sx D tys av wc w1 := by
  intro sz
  refine Met.ofW (cc := cc) (maxL := maxL) (ret := ret) hy hw ?_
  intro p e s m args below meth c s₁ B hml hv
  obtain ⟨rfl, hsz, hP, hK, hD0, hX⟩ := hv
  subst hsz
  have hl := lv_entry av hlen
  rw [lg_entry_eq]
  exact body p e s m below meth c (va_A wc s.heap.size) _ ⟨B.exec, B.bytes, hml, findClass_of_methodNamed B.named, atoms_spec (ws := wsM) B.pre, B.returns, B.notSynchronized⟩ ⟨hK, hX, fun q h => Or.inr h⟩ ⟨hP, hD0.self, va_S.rf⟩ hl
theorem retI (C : Cx p s m args meth c own Ts cc nL (some .int)) {r0 v : Int32} {w1 : va_W} (hw : Wo D A s w1 H locs) (hdg : decode cc pc = .ok (.ireturn, 1)) (hv : v = r0) : W p l e R s m args below meth c H locs 0 0 (MQ below (QcI D A r0 w1) args s 0 0 A) (F0 m pc ls [.int v]) := by
  obtain ⟨hx, hb, hml, hown, hts, hr, hlk⟩ := C
  obtain ⟨hP, hD, hS⟩ := hw
  subst hv
  exact W.iret hx hb hr (fun t ht hW => ⟨⟨v, (), rfl, rfl, by show va_P _ _ _ t.heap; rw [ht]; exact hP⟩, hS.F ht⟩) hS.2.2 hdg hlk
theorem retZ (C : Cx p s m args meth c own Ts cc nL (some .boolean)) {r0 v : Int32} {w1 : va_W} (hw : Wo D A s w1 H locs) (hdg : decode cc pc = .ok (.ireturn, 1)) (hz : isZ v = true) (hv : v = r0) : W p l e R s m args below meth c H locs 0 0 (MQ below (QcI D A r0 w1) args s 0 0 A) (F0 m pc ls [.int v]) := by
  obtain ⟨hx, hb, hml, hown, hts, hr, hlk⟩ := C
  obtain ⟨hP, hD, hS⟩ := hw
  subst hv
  exact W.zret hx hb hr (isZ_nar hz) (fun t ht hW => ⟨⟨v, (), rfl, rfl, by show va_P _ _ _ t.heap; rw [ht]; exact hP⟩, hS.F ht⟩) hS.2.2 hdg hlk
theorem retV (C : Cx p s m args meth c own Ts cc nL none) {w1 : va_W} (hw : Wo D A s w1 H locs) (hdg : decode cc pc = .ok (.return_, 1)) : W p l e R s m args below meth c H locs 0 0 (MQ below (QcV D A w1) args s 0 0 A) (F0 m pc ls []) := by
  obtain ⟨hx, hb, hml, hown, hts, hr, hlk⟩ := C
  obtain ⟨hP, hD, hS⟩ := hw
  exact W.vret hx hb hr (fun t ht hW => ⟨⟨(), rfl, trivial, by show va_P _ _ _ t.heap; rw [ht]; exact hP⟩, hS.F ht⟩) hS.2.2 hdg hlk
variable {y : MethodName} {bytes : ByteArray} {maxL n index : Nat} {retM : Option FieldType} {wsM : List Cond} {rm : Room} {b : Nat} {As : List Value} {wc w1 : va_W} {r0 : Int32}
theorem pre_of (K : Kx sx D tys A s) (hw : Wo D A s ws H locs) (is : List Nat) (hn : va_nd is = true) (hC : is.map (fun i => ws[i]?) = wc.map some) {av : List Value} : ∀ U : State, U.heap = H → s.WarmedH U.vm → va_Pc av (PreC sx D tys wc H.size) av.toArray U := by
  obtain ⟨hK, hX, hA⟩ := K
  obtain ⟨hP, hD, hS⟩ := hw
  intro U hU hW
  refine ⟨rfl, by rw [hU], ?_, va_K.moved hW.alike hK, (hD.sub is hn hC).weaken (fun _ _ _ _ => trivial), ?_⟩
  · rw [hU]
    intro k q hk
    obtain ⟨i, -, h⟩ := pick_at hC hk
    exact hP i q h
  · rw [hU]
    exact hX.go hW.alike (fun a ha hna => hS.2.1 a ha hna) (va_free hD hS hA is hC)
theorem cl_Vi (C : Cx p s m args meth c own Ts cc nL ret) (K : Kx sx D tys A s) (hw : Wo D A s ws H locs) (hM : CtI l y wsM rm sx D tys (.ref b :: As) wc r0 w1) (is : List Nat) (hn : va_nd is = true) (hC : is.map (fun i => ws[i]?) = wc.map some) (h1 : w1.map Prod.fst = wc.map Prod.fst) {j ci : Nat} {fs : List Value} {q : vw_C} (hcl : vwCl[ci]? = some q) (he : ws[j]? = some (b, .inr (ci, fs))) (cw : CallW R s args own q.1 index y bytes maxL retM wsM rm 0 0 n) (hln : As.length = n) {lv : List (Nat × Value)} (hls : lv_has ls nL lv) (hst : st0 = As.reverse ++ .ref b :: rest) (hcat : (rest.map fun v => v.category).sum ≤ 8) (hdg : decode cc pc = .ok (.invokevirtual index, 3)) (hf : cells ≤ R.cells ∧ slots ≤ R.slots)
    (kk : ∀ (H1 : Heap) (locs1 : List Loc), Wo D A s (vset ws is w1) H1 locs1 → W p l e R s m args below meth c H1 locs1 cells slots Q (F0 m (pc + 3) ls (.int r0 :: rest))) : W p l e R s m args below meth c H locs cells slots Q (F0 m pc ls st0) := by
  obtain ⟨hx, hb, hml, hown, hts, hr, hlk⟩ := C
  have hFc := va_free hw.2.1 hw.2.2 K.2.2 is hC
  refine va_calli (va_runV (As := As) (rest := rest) ⟨hx, hb, hml, hown, hts⟩ (hM H.size) cw ⟨PreC.blind, va_recv K.1 hw.1 hcl he, pre_of K hw is hn hC⟩ rfl hln hls.1 hst (lv_room hcat) hdg hf) hw.2.2 (fun q _ h => hFc q h) hFc (fun r u t H1 locs1 ht hvm hp hB hz1 hk1 hS1 => ?_)
  cases hp
  exact kk H1 locs1 (hw.call is hC h1 (by rw [← ht]; exact hB) hk1 hS1)
theorem cl_ViA (C : Cx p s m args meth c own Ts cc nL ret) (K : Kx sx D tys A s) (hw : Wo D A s ws H locs) (hM : CtI l y wsM rm sx D tys (.ref b :: As) wc r0 w1) (is : List Nat) (ha : ascB is = true) (hn : va_nd is = true) (hC : is.map (fun i => ws[i]?) = wc.map some) (h1 : w1.map Prod.fst = wc.map Prod.fst) {j ci : Nat} {fs : List Value} {q : vw_C} (hcl : vwCl[ci]? = some q) (he : ws[j]? = some (b, .inr (ci, fs))) (cw : CallW R s args own q.1 index y bytes maxL retM wsM rm 0 0 n) (hln : As.length = n) {lv : List (Nat × Value)} (hls : lv_has ls nL lv) (hst : st0 = As.reverse ++ .ref b :: rest) (hcat : (rest.map fun v => v.category).sum ≤ 8) (hdg : decode cc pc = .ok (.invokevirtual index, 3)) (hf : cells ≤ R.cells ∧ slots ≤ R.slots)
    (kk : ∀ (H1 : Heap) (locs1 : List Loc), Wo D A s (vsetA 0 ws is w1) H1 locs1 → W p l e R s m args below meth c H1 locs1 cells slots Q (F0 m (pc + 3) ls (.int r0 :: rest))) : W p l e R s m args below meth c H locs cells slots Q (F0 m pc ls st0) := by
  obtain ⟨hx, hb, hml, hown, hts, hr, hlk⟩ := C
  have hFc := va_free hw.2.1 hw.2.2 K.2.2 is hC
  refine va_calli (va_runV (As := As) (rest := rest) ⟨hx, hb, hml, hown, hts⟩ (hM H.size) cw ⟨PreC.blind, va_recv K.1 hw.1 hcl he, pre_of K hw is hn hC⟩ rfl hln hls.1 hst (lv_room hcat) hdg hf) hw.2.2 (fun q _ h => hFc q h) hFc (fun r u t H1 locs1 ht hvm hp hB hz1 hk1 hS1 => ?_)
  cases hp
  exact kk H1 locs1 (hw.callA is ha hC h1 (by rw [← ht]; exact hB) hk1 hS1)
theorem cl_Vv (C : Cx p s m args meth c own Ts cc nL ret) (K : Kx sx D tys A s) (hw : Wo D A s ws H locs) (hM : CtV l y wsM rm sx D tys (.ref b :: As) wc w1) (is : List Nat) (hn : va_nd is = true) (hC : is.map (fun i => ws[i]?) = wc.map some) (h1 : w1.map Prod.fst = wc.map Prod.fst) {j ci : Nat} {fs : List Value} {q : vw_C} (hcl : vwCl[ci]? = some q) (he : ws[j]? = some (b, .inr (ci, fs))) (cw : CallW R s args own q.1 index y bytes maxL retM wsM rm 0 0 n) (hln : As.length = n) {lv : List (Nat × Value)} (hls : lv_has ls nL lv) (hst : st0 = As.reverse ++ .ref b :: rest) (hcat : (rest.map fun v => v.category).sum ≤ 8) (hdg : decode cc pc = .ok (.invokevirtual index, 3)) (hf : cells ≤ R.cells ∧ slots ≤ R.slots)
    (kk : ∀ (H1 : Heap) (locs1 : List Loc), Wo D A s (vset ws is w1) H1 locs1 → W p l e R s m args below meth c H1 locs1 cells slots Q (F0 m (pc + 3) ls rest)) : W p l e R s m args below meth c H locs cells slots Q (F0 m pc ls st0) := by
  obtain ⟨hx, hb, hml, hown, hts, hr, hlk⟩ := C
  have hFc := va_free hw.2.1 hw.2.2 K.2.2 is hC
  refine va_callv (va_runV (As := As) (rest := rest) ⟨hx, hb, hml, hown, hts⟩ (hM H.size) cw ⟨PreC.blind, va_recv K.1 hw.1 hcl he, pre_of K hw is hn hC⟩ rfl hln hls.1 hst (lv_room hcat) hdg hf) hw.2.2 (fun q _ h => hFc q h) hFc (fun u t H1 locs1 ht hvm hp hB hz1 hk1 hS1 => ?_)
  exact kk H1 locs1 (hw.call is hC h1 (by rw [← ht]; exact hB) hk1 hS1)
theorem cl_VvA (C : Cx p s m args meth c own Ts cc nL ret) (K : Kx sx D tys A s) (hw : Wo D A s ws H locs) (hM : CtV l y wsM rm sx D tys (.ref b :: As) wc w1) (is : List Nat) (ha : ascB is = true) (hn : va_nd is = true) (hC : is.map (fun i => ws[i]?) = wc.map some) (h1 : w1.map Prod.fst = wc.map Prod.fst) {j ci : Nat} {fs : List Value} {q : vw_C} (hcl : vwCl[ci]? = some q) (he : ws[j]? = some (b, .inr (ci, fs))) (cw : CallW R s args own q.1 index y bytes maxL retM wsM rm 0 0 n) (hln : As.length = n) {lv : List (Nat × Value)} (hls : lv_has ls nL lv) (hst : st0 = As.reverse ++ .ref b :: rest) (hcat : (rest.map fun v => v.category).sum ≤ 8) (hdg : decode cc pc = .ok (.invokevirtual index, 3)) (hf : cells ≤ R.cells ∧ slots ≤ R.slots)
    (kk : ∀ (H1 : Heap) (locs1 : List Loc), Wo D A s (vsetA 0 ws is w1) H1 locs1 → W p l e R s m args below meth c H1 locs1 cells slots Q (F0 m (pc + 3) ls rest)) : W p l e R s m args below meth c H locs cells slots Q (F0 m pc ls st0) := by
  obtain ⟨hx, hb, hml, hown, hts, hr, hlk⟩ := C
  have hFc := va_free hw.2.1 hw.2.2 K.2.2 is hC
  refine va_callv (va_runV (As := As) (rest := rest) ⟨hx, hb, hml, hown, hts⟩ (hM H.size) cw ⟨PreC.blind, va_recv K.1 hw.1 hcl he, pre_of K hw is hn hC⟩ rfl hln hls.1 hst (lv_room hcat) hdg hf) hw.2.2 (fun q _ h => hFc q h) hFc (fun u t H1 locs1 ht hvm hp hB hz1 hk1 hS1 => ?_)
  exact kk H1 locs1 (hw.callA is ha hC h1 (by rw [← ht]; exact hB) hk1 hS1)
theorem cl_Si (C : Cx p s m args meth c own Ts cc nL ret) (K : Kx sx D tys A s) (hw : Wo D A s ws H locs) (hM : CtI l y wsM rm sx D tys As wc r0 w1) (is : List Nat) (hn : va_nd is = true) (hC : is.map (fun i => ws[i]?) = wc.map some) (h1 : w1.map Prod.fst = wc.map Prod.fst) (cw : CallB R s args own index y bytes maxL retM wsM rm 0 0 n ∧ (Cond.static y).before args s = true) (hln : As.length = n) {lv : List (Nat × Value)} (hls : lv_has ls nL lv) (hst : st0 = As.reverse ++ rest) (hcat : (rest.map fun v => v.category).sum ≤ 8) (hdg : decode cc pc = .ok (.invokestatic index, 3)) (hf : cells ≤ R.cells ∧ slots ≤ R.slots)
    (kk : ∀ (H1 : Heap) (locs1 : List Loc), Wo D A s (vset ws is w1) H1 locs1 → W p l e R s m args below meth c H1 locs1 cells slots Q (F0 m (pc + 3) ls (.int r0 :: rest))) : W p l e R s m args below meth c H locs cells slots Q (F0 m pc ls st0) := by
  obtain ⟨hx, hb, hml, hown, hts, hr, hlk⟩ := C
  have hFc := va_free hw.2.1 hw.2.2 K.2.2 is hC
  refine va_calli (va_runS (As := As) (rest := rest) ⟨hx, hb, hml, hown, hts⟩ (hM H.size) cw ⟨PreC.blind, pre_of K hw is hn hC⟩ rfl hln hls.1 hst (lv_room hcat) hdg hf) hw.2.2 (fun q _ h => hFc q h) hFc (fun r u t H1 locs1 ht hvm hp hB hz1 hk1 hS1 => ?_)
  cases hp
  exact kk H1 locs1 (hw.call is hC h1 (by rw [← ht]; exact hB) hk1 hS1)
theorem cl_SiA (C : Cx p s m args meth c own Ts cc nL ret) (K : Kx sx D tys A s) (hw : Wo D A s ws H locs) (hM : CtI l y wsM rm sx D tys As wc r0 w1) (is : List Nat) (ha : ascB is = true) (hn : va_nd is = true) (hC : is.map (fun i => ws[i]?) = wc.map some) (h1 : w1.map Prod.fst = wc.map Prod.fst) (cw : CallB R s args own index y bytes maxL retM wsM rm 0 0 n ∧ (Cond.static y).before args s = true) (hln : As.length = n) {lv : List (Nat × Value)} (hls : lv_has ls nL lv) (hst : st0 = As.reverse ++ rest) (hcat : (rest.map fun v => v.category).sum ≤ 8) (hdg : decode cc pc = .ok (.invokestatic index, 3)) (hf : cells ≤ R.cells ∧ slots ≤ R.slots)
    (kk : ∀ (H1 : Heap) (locs1 : List Loc), Wo D A s (vsetA 0 ws is w1) H1 locs1 → W p l e R s m args below meth c H1 locs1 cells slots Q (F0 m (pc + 3) ls (.int r0 :: rest))) : W p l e R s m args below meth c H locs cells slots Q (F0 m pc ls st0) := by
  obtain ⟨hx, hb, hml, hown, hts, hr, hlk⟩ := C
  have hFc := va_free hw.2.1 hw.2.2 K.2.2 is hC
  refine va_calli (va_runS (As := As) (rest := rest) ⟨hx, hb, hml, hown, hts⟩ (hM H.size) cw ⟨PreC.blind, pre_of K hw is hn hC⟩ rfl hln hls.1 hst (lv_room hcat) hdg hf) hw.2.2 (fun q _ h => hFc q h) hFc (fun r u t H1 locs1 ht hvm hp hB hz1 hk1 hS1 => ?_)
  cases hp
  exact kk H1 locs1 (hw.callA is ha hC h1 (by rw [← ht]; exact hB) hk1 hS1)
theorem cl_Sv (C : Cx p s m args meth c own Ts cc nL ret) (K : Kx sx D tys A s) (hw : Wo D A s ws H locs) (hM : CtV l y wsM rm sx D tys As wc w1) (is : List Nat) (hn : va_nd is = true) (hC : is.map (fun i => ws[i]?) = wc.map some) (h1 : w1.map Prod.fst = wc.map Prod.fst) (cw : CallB R s args own index y bytes maxL retM wsM rm 0 0 n ∧ (Cond.static y).before args s = true) (hln : As.length = n) {lv : List (Nat × Value)} (hls : lv_has ls nL lv) (hst : st0 = As.reverse ++ rest) (hcat : (rest.map fun v => v.category).sum ≤ 8) (hdg : decode cc pc = .ok (.invokestatic index, 3)) (hf : cells ≤ R.cells ∧ slots ≤ R.slots)
    (kk : ∀ (H1 : Heap) (locs1 : List Loc), Wo D A s (vset ws is w1) H1 locs1 → W p l e R s m args below meth c H1 locs1 cells slots Q (F0 m (pc + 3) ls rest)) : W p l e R s m args below meth c H locs cells slots Q (F0 m pc ls st0) := by
  obtain ⟨hx, hb, hml, hown, hts, hr, hlk⟩ := C
  have hFc := va_free hw.2.1 hw.2.2 K.2.2 is hC
  refine va_callv (va_runS (As := As) (rest := rest) ⟨hx, hb, hml, hown, hts⟩ (hM H.size) cw ⟨PreC.blind, pre_of K hw is hn hC⟩ rfl hln hls.1 hst (lv_room hcat) hdg hf) hw.2.2 (fun q _ h => hFc q h) hFc (fun u t H1 locs1 ht hvm hp hB hz1 hk1 hS1 => ?_)
  exact kk H1 locs1 (hw.call is hC h1 (by rw [← ht]; exact hB) hk1 hS1)
theorem cl_SvA (C : Cx p s m args meth c own Ts cc nL ret) (K : Kx sx D tys A s) (hw : Wo D A s ws H locs) (hM : CtV l y wsM rm sx D tys As wc w1) (is : List Nat) (ha : ascB is = true) (hn : va_nd is = true) (hC : is.map (fun i => ws[i]?) = wc.map some) (h1 : w1.map Prod.fst = wc.map Prod.fst) (cw : CallB R s args own index y bytes maxL retM wsM rm 0 0 n ∧ (Cond.static y).before args s = true) (hln : As.length = n) {lv : List (Nat × Value)} (hls : lv_has ls nL lv) (hst : st0 = As.reverse ++ rest) (hcat : (rest.map fun v => v.category).sum ≤ 8) (hdg : decode cc pc = .ok (.invokestatic index, 3)) (hf : cells ≤ R.cells ∧ slots ≤ R.slots)
    (kk : ∀ (H1 : Heap) (locs1 : List Loc), Wo D A s (vsetA 0 ws is w1) H1 locs1 → W p l e R s m args below meth c H1 locs1 cells slots Q (F0 m (pc + 3) ls rest)) : W p l e R s m args below meth c H locs cells slots Q (F0 m pc ls st0) := by
  obtain ⟨hx, hb, hml, hown, hts, hr, hlk⟩ := C
  have hFc := va_free hw.2.1 hw.2.2 K.2.2 is hC
  refine va_callv (va_runS (As := As) (rest := rest) ⟨hx, hb, hml, hown, hts⟩ (hM H.size) cw ⟨PreC.blind, pre_of K hw is hn hC⟩ rfl hln hls.1 hst (lv_room hcat) hdg hf) hw.2.2 (fun q _ h => hFc q h) hFc (fun u t H1 locs1 ht hvm hp hB hz1 hk1 hS1 => ?_)
  exact kk H1 locs1 (hw.callA is ha hC h1 (by rw [← ht]; exact hB) hk1 hS1)
theorem lv_nmi {x z : Int32} (h : z = x) (k : W p l e R s m args below meth c H locs cells slots Q (F0 m pc ls (.int z :: rest))) : W p l e R s m args below meth c H locs cells slots Q (F0 m pc ls (.int x :: rest)) := by
  rw [← h]
  exact k
theorem lv_nml {x z : Int64} (h : z = x) (k : W p l e R s m args below meth c H locs cells slots Q (F0 m pc ls (.long z :: rest))) : W p l e R s m args below meth c H locs cells slots Q (F0 m pc ls (.long x :: rest)) := by
  rw [← h]
  exact k
theorem ald4 (hx : p.tables.exec = Jvm.exec) (hb : c.code = cc) {cI cZ cO : ClassId} (hK : va_K D vwCl (tyL cI cZ cO) s) (hP : va_P D vwCl ws H) (q0 : Nat) {a : Nat} {rw : Nat → Nat} (ha : ws[q0]? = some (a, .inl (cO, 4, .inr (.inr (.inr (.inr (rwF rw))))))) {i : Int32} (hc : inB i 4 = true) (hdg : decode cc pc = .ok (.aaload, 1))
    (k0 : i = 0 → W p l e R s m args below meth c H locs cells slots Q (F0 m (pc + 1) ls (.ref (rw 0) :: rest)))
    (k1 : ¬ i = 0 → i = 1 → W p l e R s m args below meth c H locs cells slots Q (F0 m (pc + 1) ls (.ref (rw 1) :: rest)))
    (k2 : ¬ i = 0 → ¬ i = 1 → i = 2 → W p l e R s m args below meth c H locs cells slots Q (F0 m (pc + 1) ls (.ref (rw 2) :: rest)))
    (k3 : ¬ i = 0 → ¬ i = 1 → ¬ i = 2 → W p l e R s m args below meth c H locs cells slots Q (F0 m (pc + 1) ls (.ref (rw 3) :: rest))) : W p l e R s m args below meth c H locs cells slots Q (F0 m pc ls (.int i :: .ref a :: rest)) := by
  have hin := inB_in hc
  have hlt : i.toNatClampNeg < 4 := Nat.not_le.mp fun q => hin (Or.inr q)
  refine W.aald (v := va_rf (rwF rw i.toNatClampNeg)) (ty := .array .int) hx hb (hP q0 _ ha) ((hK.2 2 _ rfl).1 4 (fun j => va_rf (rwF rw j))) rfl (fun q => by cases q) (by show ¬ (i < 0 ∨ (arrV _ _ _).slots.size ≤ _); rw [arrV_size]; exact hin) (by show (arrV _ _ _).slots[_]? = _; rw [arrV_read _ _ hlt]) rfl rfl hdg ?_
  obtain ⟨j, hj, rfl⟩ := vp_in_of hin (by decide)
  rcases (show j = 0 ∨ j = 1 ∨ j = 2 ∨ j = 3 by omega) with rfl | rfl | rfl | rfl
  · exact k0 (by decide)
  · exact k1 (by decide) (by decide)
  · exact k2 (by decide) (by decide) (by decide)
  · exact k3 (by decide) (by decide) (by decide)
theorem sx_len (hx : p.tables.exec = Jvm.exec) (hb : c.code = cc) {b L : Nat} {ty : FieldType} {xs : Nat → Int32} (hX : sx_X b L ty xs s s.heap) (hnA : ¬ A b) (hS : va_S A s.heap H locs) {v : Int32} (hv : Int32.ofNat L = v) (hdg : decode cc pc = .ok (.arraylength, 1))
    (kk : W p l e R s m args below meth c H locs cells slots Q (F0 m (pc + 1) ls (.int v :: rest))) : W p l e R s m args below meth c H locs cells slots Q (F0 m pc ls (.ref b :: rest)) := by
  subst hv
  have hlt := hX.lt
  obtain ⟨scr, h1, h2, h3, h4, h5⟩ := hX
  exact W.alen (n := Int32.ofNat L) hx hb (by rw [hS.2.1 b hlt hnA]; exact h1) h2 (by rw [h4] <;> rfl) rfl rfl hdg kk
theorem sx_ild (hx : p.tables.exec = Jvm.exec) (hb : c.code = cc) {b L : Nat} {xs : Nat → Int32} (hX : sx_X b L .int xs s s.heap) (hnA : ¬ A b) (hS : va_S A s.heap H locs) {i : Int32} (hin : vp_in i L) (hdg : decode cc pc = .ok (.iaload, 1))
    (kk : W p l e R s m args below meth c H locs cells slots Q (F0 m (pc + 1) ls (.int (xs i.toNatClampNeg) :: rest))) : W p l e R s m args below meth c H locs cells slots Q (F0 m pc ls (.int i :: .ref b :: rest)) := by
  have hl := hX.lt
  obtain ⟨scr, h1, h2, h3, h4, h5⟩ := hX
  have hlt : i.toNatClampNeg < L := Nat.not_le.mp fun q => hin (Or.inr q)
  exact W.iald (v := .int (xs i.toNatClampNeg)) hx hb (by rw [hS.2.1 b hl hnA]; exact h1) h2 h3 (by rw [h4]; exact hin) (h5 _ hlt) rfl rfl hdg kk
theorem sx_cld (hx : p.tables.exec = Jvm.exec) (hb : c.code = cc) {b L : Nat} {xs : Nat → Int32} (hX : sx_X b L .char xs s s.heap) (hnA : ¬ A b) (hS : va_S A s.heap H locs) {i : Int32} (hin : vp_in i L) (hdg : decode cc pc = .ok (.caload, 1))
    (kk : W p l e R s m args below meth c H locs cells slots Q (F0 m (pc + 1) ls (.int (xs i.toNatClampNeg) :: rest))) : W p l e R s m args below meth c H locs cells slots Q (F0 m pc ls (.int i :: .ref b :: rest)) := by
  have hl := hX.lt
  obtain ⟨scr, h1, h2, h3, h4, h5⟩ := hX
  have hlt : i.toNatClampNeg < L := Nat.not_le.mp fun q => hin (Or.inr q)
  exact W.cald (v := .int (xs i.toNatClampNeg)) hx hb (by rw [hS.2.1 b hl hnA]; exact h1) h2 h3 (by rw [h4]; exact hin) (h5 _ hlt) rfl rfl hdg kk
end CR
