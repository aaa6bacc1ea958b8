/-! pure words for partial answers -/
def gd {α : Type} (b : Bool) (x : Option α) : Option α := match b with
  | true => x
  | false => none
theorem gd_some {α : Type} {b : Bool} {x : Option α} {o : α} (h : gd b x = some o) : b = true ∧ x = some o := by
  cases b with
  | true => exact ⟨rfl, h⟩
  | false => cases h
theorem gd_t {α : Type} {b : Bool} {x : Option α} (h : b = true) : gd b x = x := by subst h; rfl
def bnd {α β : Type} (a : α) (f : α → Option β) : Option β := f a
theorem bnd_some {α β : Type} {a : α} {f : α → Option β} {o : β} (h : bnd a f = some o) : ∃ x, x = a ∧ f x = some o := ⟨a, rfl, h⟩
/-- an index within a row of n places -/
def inB (i : Int32) (n : Nat) : Bool := decide (¬ (i < 0 ∨ n ≤ i.toNatClampNeg))
theorem inB_in {i : Int32} {n : Nat} (h : inB i n = true) : vp_in i n := of_decide_eq_true (p := ¬ (i < 0 ∨ n ≤ i.toNatClampNeg)) h
theorem inB_of {i : Int32} {n : Nat} (h : vp_in i n) : inB i n = true := decide_eq_true (p := ¬ (i < 0 ∨ n ≤ i.toNatClampNeg)) h
def nzB (i : Int32) : Bool := decide (¬ i = 0)
theorem nzB_nz {i : Int32} (h : nzB i = true) : ¬ i = 0 := of_decide_eq_true h
def nzL (i : Int64) : Bool := decide (¬ i = 0)
theorem nzL_nz {i : Int64} (h : nzL i = true) : ¬ i = 0 := of_decide_eq_true h
def isZ (i : Int32) : Bool := decide (i = 0 ∨ i = 1)
theorem isZ_or {i : Int32} (h : isZ i = true) : i = 0 ∨ i = 1 := of_decide_eq_true h
theorem isZ_nar {i : Int32} (h : isZ i = true) : narrow .boolean (.int i) = .int i := by
  rcases isZ_or h with rfl | rfl <;> rfl
theorem isZ_fit {i : Int32} (h : isZ i = true) : fits .boolean (.int i) = true := by
  rcases isZ_or h with rfl | rfl <;> rfl
/-- a stretch of n places from i on, in a row of N -/
def spB (i n : Int32) (N : Nat) : Bool := decide (¬ i < 0 ∧ ¬ n < 0 ∧ i.toNatClampNeg + n.toNatClampNeg ≤ N)
theorem spB_sp {i n : Int32} {N : Nat} (h : spB i n N = true) : ¬ i < 0 ∧ ¬ n < 0 ∧ i.toNatClampNeg + n.toNatClampNeg ≤ N := of_decide_eq_true h
