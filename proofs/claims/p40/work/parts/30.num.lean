section
/-! PURE THEORY: numbers and the words of the generated functions -/
def mI (n : Nat) : Int32 := -nI n
theorem lit_nI (n : Nat) : (@OfNat.ofNat Int32 n Int32.instOfNat) = nI (OfNat.ofNat n) := (rfl)
theorem neg_nI (n : Nat) : -nI n = mI n := (rfl)
theorem gd_true {α : Type} (x : Option α) : gd true x = x := (rfl)
theorem gd_false {α : Type} (x : Option α) : gd false x = none := (rfl)
theorem bnd_def {α β : Type} (a : α) (f : α → Option β) : bnd a f = f a := (rfl)
theorem inB_nI {n N : Nat} (h : n < N ∧ N < 2 ^ 31) : inB (nI n) N = true := inB_of (vp_in_nI h.1 h.2)
theorem inB_ex {x : Int32} {N : Nat} (h : inB x N = true) (hN : N < 2 ^ 31) : ∃ j : Nat, j < N ∧ x = nI j := vp_in_of (inB_in h) hN
theorem mI_toInt {n : Nat} (h : n < 2 ^ 31) : (mI n).toInt = -(n : Int) := sb_negT h
theorem nI_mI {n k : Nat} (h : n < 2 ^ 31 ∧ 0 < k ∧ k < 2 ^ 31) : (nI n = mI k) = False := by
  refine eq_false fun e => ?_
  have h1 := congrArg Int32.toInt e
  rw [nI_toInt h.1, mI_toInt h.2.2] at h1
  omega
theorem mI_nI {n k : Nat} (h : n < 2 ^ 31 ∧ 0 < k ∧ k < 2 ^ 31) : (mI k = nI n) = False := by
  rw [← nI_mI h]
  exact propext ⟨fun e => e.symm, fun e => e.symm⟩
theorem nI_inj {a b : Nat} (ha : a < 2 ^ 31) (hb : b < 2 ^ 31) (e : nI a = nI b) : a = b := (nI_eq ha hb).mp e
theorem nle_T {a b : Nat} (h : a ≤ b) : (a ≤ b) = True := eq_true h
theorem nle_F {a b : Nat} (h : b < a) : (a ≤ b) = False := eq_false (by omega)
theorem nlt_T {a b : Nat} (h : a < b) : (a < b) = True := eq_true h
theorem nlt_F {a b : Nat} (h : b ≤ a) : (a < b) = False := eq_false (by omega)
theorem neq_T {a b : Nat} (h : a = b) : (a = b) = True := eq_true h
theorem neq_F {a b : Nat} (h : a ≠ b) : (a = b) = False := eq_false h
theorem upd_y {f : Nat → Int32} {k j : Nat} {x : Int32} (h : j = k) : upd f k x j = x := by rw [h]; exact pk_us
theorem upd_n {f : Nat → Int32} {k j : Nat} {x : Int32} (h : j ≠ k) : upd f k x j = f j := pk_un h
theorem lt32 (a b : Int32) : a < b ↔ a.toInt < b.toInt := Int32.lt_iff_toInt_lt
theorem le32 (a b : Int32) : a ≤ b ↔ a.toInt ≤ b.toInt := Int32.le_iff_toInt_le
/-- a number lies among 0 .. k, or below, or above -/
theorem rng (x : Int32) (k : Nat) (hk : k < 2 ^ 31 - 1) : (∃ j : Nat, j ≤ k ∧ x = nI j) ∨ x < nI 0 ∨ (¬ x < nI 0 ∧ nI k < x ∧ ¬ x ≤ nI k) := by
  rcases pk_ix x (n := k + 1) (by omega) with h | h | ⟨j, hj, e⟩
  · exact Or.inr (Or.inl h)
  · have h1 : (nI (k + 1)).toInt = ((k + 1 : Nat) : Int) := nI_toInt (by omega)
    have h2 : (nI k).toInt = (k : Int) := nI_toInt (by omega)
    have h0 : (nI 0).toInt = (0 : Int) := by decide
    rw [le32, h1] at h
    exact Or.inr (Or.inr ⟨by rw [lt32, h0]; omega, by rw [lt32, h2]; omega, by rw [le32, h2]; omega⟩)
  · exact Or.inl ⟨j, by omega, e⟩
/-- a number lies among 0 .. k - 1, or below, or at k or above -/
theorem rngN (x : Int32) (k : Nat) (hk : k < 2 ^ 31 - 1) : (∃ j : Nat, j < k ∧ x = nI j) ∨ x < nI 0 ∨ (¬ x < nI 0 ∧ nI k ≤ x ∧ ¬ x < nI k) := by
  rcases pk_ix x (n := k) (by omega) with h | h | ⟨j, hj, e⟩
  · exact Or.inr (Or.inl h)
  · have h2 : (nI k).toInt = (k : Int) := nI_toInt (by omega)
    have h0 : (nI 0).toInt = (0 : Int) := by decide
    have h9 := h
    rw [le32, h2] at h
    exact Or.inr (Or.inr ⟨by rw [lt32, h0]; omega, h9, by rw [lt32, h2]; omega⟩)
  · exact Or.inl ⟨j, hj, e⟩
theorem ob1_e {α0 β : Type} (x0 : α0) (k : α0 → Option β) : ob1 (some (x0)) k = k x0 := (rfl)
theorem ob2_e {α0 α1 β : Type} (x0 : α0) (x1 : α1) (k : α0 → α1 → Option β) : ob2 (some (x0, x1)) k = k x0 x1 := (rfl)
theorem ob3_e {α0 α1 α2 β : Type} (x0 : α0) (x1 : α1) (x2 : α2) (k : α0 → α1 → α2 → Option β) : ob3 (some (x0, x1, x2)) k = k x0 x1 x2 := (rfl)
theorem ob4_e {α0 α1 α2 α3 β : Type} (x0 : α0) (x1 : α1) (x2 : α2) (x3 : α3) (k : α0 → α1 → α2 → α3 → Option β) : ob4 (some (x0, x1, x2, x3)) k = k x0 x1 x2 x3 := (rfl)
theorem ob5_e {α0 α1 α2 α3 α4 β : Type} (x0 : α0) (x1 : α1) (x2 : α2) (x3 : α3) (x4 : α4) (k : α0 → α1 → α2 → α3 → α4 → Option β) : ob5 (some (x0, x1, x2, x3, x4)) k = k x0 x1 x2 x3 x4 := (rfl)
theorem ob6_e {α0 α1 α2 α3 α4 α5 β : Type} (x0 : α0) (x1 : α1) (x2 : α2) (x3 : α3) (x4 : α4) (x5 : α5) (k : α0 → α1 → α2 → α3 → α4 → α5 → Option β) : ob6 (some (x0, x1, x2, x3, x4, x5)) k = k x0 x1 x2 x3 x4 x5 := (rfl)
theorem ob7_e {α0 α1 α2 α3 α4 α5 α6 β : Type} (x0 : α0) (x1 : α1) (x2 : α2) (x3 : α3) (x4 : α4) (x5 : α5) (x6 : α6) (k : α0 → α1 → α2 → α3 → α4 → α5 → α6 → Option β) : ob7 (some (x0, x1, x2, x3, x4, x5, x6)) k = k x0 x1 x2 x3 x4 x5 x6 := (rfl)
theorem ob8_e {α0 α1 α2 α3 α4 α5 α6 α7 β : Type} (x0 : α0) (x1 : α1) (x2 : α2) (x3 : α3) (x4 : α4) (x5 : α5) (x6 : α6) (x7 : α7) (k : α0 → α1 → α2 → α3 → α4 → α5 → α6 → α7 → Option β) : ob8 (some (x0, x1, x2, x3, x4, x5, x6, x7)) k = k x0 x1 x2 x3 x4 x5 x6 x7 := (rfl)
theorem ob9_e {α0 α1 α2 α3 α4 α5 α6 α7 α8 β : Type} (x0 : α0) (x1 : α1) (x2 : α2) (x3 : α3) (x4 : α4) (x5 : α5) (x6 : α6) (x7 : α7) (x8 : α8) (k : α0 → α1 → α2 → α3 → α4 → α5 → α6 → α7 → α8 → Option β) : ob9 (some (x0, x1, x2, x3, x4, x5, x6, x7, x8)) k = k x0 x1 x2 x3 x4 x5 x6 x7 x8 := (rfl)
theorem ob10_e {α0 α1 α2 α3 α4 α5 α6 α7 α8 α9 β : Type} (x0 : α0) (x1 : α1) (x2 : α2) (x3 : α3) (x4 : α4) (x5 : α5) (x6 : α6) (x7 : α7) (x8 : α8) (x9 : α9) (k : α0 → α1 → α2 → α3 → α4 → α5 → α6 → α7 → α8 → α9 → Option β) : ob10 (some (x0, x1, x2, x3, x4, x5, x6, x7, x8, x9)) k = k x0 x1 x2 x3 x4 x5 x6 x7 x8 x9 := (rfl)
theorem ob11_e {α0 α1 α2 α3 α4 α5 α6 α7 α8 α9 α10 β : Type} (x0 : α0) (x1 : α1) (x2 : α2) (x3 : α3) (x4 : α4) (x5 : α5) (x6 : α6) (x7 : α7) (x8 : α8) (x9 : α9) (x10 : α10) (k : α0 → α1 → α2 → α3 → α4 → α5 → α6 → α7 → α8 → α9 → α10 → Option β) : ob11 (some (x0, x1, x2, x3, x4, x5, x6, x7, x8, x9, x10)) k = k x0 x1 x2 x3 x4 x5 x6 x7 x8 x9 x10 := (rfl)
theorem ob12_e {α0 α1 α2 α3 α4 α5 α6 α7 α8 α9 α10 α11 β : Type} (x0 : α0) (x1 : α1) (x2 : α2) (x3 : α3) (x4 : α4) (x5 : α5) (x6 : α6) (x7 : α7) (x8 : α8) (x9 : α9) (x10 : α10) (x11 : α11) (k : α0 → α1 → α2 → α3 → α4 → α5 → α6 → α7 → α8 → α9 → α10 → α11 → Option β) : ob12 (some (x0, x1, x2, x3, x4, x5, x6, x7, x8, x9, x10, x11)) k = k x0 x1 x2 x3 x4 x5 x6 x7 x8 x9 x10 x11 := (rfl)
theorem ob13_e {α0 α1 α2 α3 α4 α5 α6 α7 α8 α9 α10 α11 α12 β : Type} (x0 : α0) (x1 : α1) (x2 : α2) (x3 : α3) (x4 : α4) (x5 : α5) (x6 : α6) (x7 : α7) (x8 : α8) (x9 : α9) (x10 : α10) (x11 : α11) (x12 : α12) (k : α0 → α1 → α2 → α3 → α4 → α5 → α6 → α7 → α8 → α9 → α10 → α11 → α12 → Option β) : ob13 (some (x0, x1, x2, x3, x4, x5, x6, x7, x8, x9, x10, x11, x12)) k = k x0 x1 x2 x3 x4 x5 x6 x7 x8 x9 x10 x11 x12 := (rfl)
theorem ob14_e {α0 α1 α2 α3 α4 α5 α6 α7 α8 α9 α10 α11 α12 α13 β : Type} (x0 : α0) (x1 : α1) (x2 : α2) (x3 : α3) (x4 : α4) (x5 : α5) (x6 : α6) (x7 : α7) (x8 : α8) (x9 : α9) (x10 : α10) (x11 : α11) (x12 : α12) (x13 : α13) (k : α0 → α1 → α2 → α3 → α4 → α5 → α6 → α7 → α8 → α9 → α10 → α11 → α12 → α13 → Option β) : ob14 (some (x0, x1, x2, x3, x4, x5, x6, x7, x8, x9, x10, x11, x12, x13)) k = k x0 x1 x2 x3 x4 x5 x6 x7 x8 x9 x10 x11 x12 x13 := (rfl)
theorem ob15_e {α0 α1 α2 α3 α4 α5 α6 α7 α8 α9 α10 α11 α12 α13 α14 β : Type} (x0 : α0) (x1 : α1) (x2 : α2) (x3 : α3) (x4 : α4) (x5 : α5) (x6 : α6) (x7 : α7) (x8 : α8) (x9 : α9) (x10 : α10) (x11 : α11) (x12 : α12) (x13 : α13) (x14 : α14) (k : α0 → α1 → α2 → α3 → α4 → α5 → α6 → α7 → α8 → α9 → α10 → α11 → α12 → α13 → α14 → Option β) : ob15 (some (x0, x1, x2, x3, x4, x5, x6, x7, x8, x9, x10, x11, x12, x13, x14)) k = k x0 x1 x2 x3 x4 x5 x6 x7 x8 x9 x10 x11 x12 x13 x14 := (rfl)
theorem ob16_e {α0 α1 α2 α3 α4 α5 α6 α7 α8 α9 α10 α11 α12 α13 α14 α15 β : Type} (x0 : α0) (x1 : α1) (x2 : α2) (x3 : α3) (x4 : α4) (x5 : α5) (x6 : α6) (x7 : α7) (x8 : α8) (x9 : α9) (x10 : α10) (x11 : α11) (x12 : α12) (x13 : α13) (x14 : α14) (x15 : α15) (k : α0 → α1 → α2 → α3 → α4 → α5 → α6 → α7 → α8 → α9 → α10 → α11 → α12 → α13 → α14 → α15 → Option β) : ob16 (some (x0, x1, x2, x3, x4, x5, x6, x7, x8, x9, x10, x11, x12, x13, x14, x15)) k = k x0 x1 x2 x3 x4 x5 x6 x7 x8 x9 x10 x11 x12 x13 x14 x15 := (rfl)
theorem ob17_e {α0 α1 α2 α3 α4 α5 α6 α7 α8 α9 α10 α11 α12 α13 α14 α15 α16 β : Type} (x0 : α0) (x1 : α1) (x2 : α2) (x3 : α3) (x4 : α4) (x5 : α5) (x6 : α6) (x7 : α7) (x8 : α8) (x9 : α9) (x10 : α10) (x11 : α11) (x12 : α12) (x13 : α13) (x14 : α14) (x15 : α15) (x16 : α16) (k : α0 → α1 → α2 → α3 → α4 → α5 → α6 → α7 → α8 → α9 → α10 → α11 → α12 → α13 → α14 → α15 → α16 → Option β) : ob17 (some (x0, x1, x2, x3, x4, x5, x6, x7, x8, x9, x10, x11, x12, x13, x14, x15, x16)) k = k x0 x1 x2 x3 x4 x5 x6 x7 x8 x9 x10 x11 x12 x13 x14 x15 x16 := (rfl)
theorem ob18_e {α0 α1 α2 α3 α4 α5 α6 α7 α8 α9 α10 α11 α12 α13 α14 α15 α16 α17 β : Type} (x0 : α0) (x1 : α1) (x2 : α2) (x3 : α3) (x4 : α4) (x5 : α5) (x6 : α6) (x7 : α7) (x8 : α8) (x9 : α9) (x10 : α10) (x11 : α11) (x12 : α12) (x13 : α13) (x14 : α14) (x15 : α15) (x16 : α16) (x17 : α17) (k : α0 → α1 → α2 → α3 → α4 → α5 → α6 → α7 → α8 → α9 → α10 → α11 → α12 → α13 → α14 → α15 → α16 → α17 → Option β) : ob18 (some (x0, x1, x2, x3, x4, x5, x6, x7, x8, x9, x10, x11, x12, x13, x14, x15, x16, x17)) k = k x0 x1 x2 x3 x4 x5 x6 x7 x8 x9 x10 x11 x12 x13 x14 x15 x16 x17 := (rfl)
theorem ob19_e {α0 α1 α2 α3 α4 α5 α6 α7 α8 α9 α10 α11 α12 α13 α14 α15 α16 α17 α18 β : Type} (x0 : α0) (x1 : α1) (x2 : α2) (x3 : α3) (x4 : α4) (x5 : α5) (x6 : α6) (x7 : α7) (x8 : α8) (x9 : α9) (x10 : α10) (x11 : α11) (x12 : α12) (x13 : α13) (x14 : α14) (x15 : α15) (x16 : α16) (x17 : α17) (x18 : α18) (k : α0 → α1 → α2 → α3 → α4 → α5 → α6 → α7 → α8 → α9 → α10 → α11 → α12 → α13 → α14 → α15 → α16 → α17 → α18 → Option β) : ob19 (some (x0, x1, x2, x3, x4, x5, x6, x7, x8, x9, x10, x11, x12, x13, x14, x15, x16, x17, x18)) k = k x0 x1 x2 x3 x4 x5 x6 x7 x8 x9 x10 x11 x12 x13 x14 x15 x16 x17 x18 := (rfl)
theorem ob20_e {α0 α1 α2 α3 α4 α5 α6 α7 α8 α9 α10 α11 α12 α13 α14 α15 α16 α17 α18 α19 β : Type} (x0 : α0) (x1 : α1) (x2 : α2) (x3 : α3) (x4 : α4) (x5 : α5) (x6 : α6) (x7 : α7) (x8 : α8) (x9 : α9) (x10 : α10) (x11 : α11) (x12 : α12) (x13 : α13) (x14 : α14) (x15 : α15) (x16 : α16) (x17 : α17) (x18 : α18) (x19 : α19) (k : α0 → α1 → α2 → α3 → α4 → α5 → α6 → α7 → α8 → α9 → α10 → α11 → α12 → α13 → α14 → α15 → α16 → α17 → α18 → α19 → Option β) : ob20 (some (x0, x1, x2, x3, x4, x5, x6, x7, x8, x9, x10, x11, x12, x13, x14, x15, x16, x17, x18, x19)) k = k x0 x1 x2 x3 x4 x5 x6 x7 x8 x9 x10 x11 x12 x13 x14 x15 x16 x17 x18 x19 := (rfl)
theorem ob21_e {α0 α1 α2 α3 α4 α5 α6 α7 α8 α9 α10 α11 α12 α13 α14 α15 α16 α17 α18 α19 α20 β : Type} (x0 : α0) (x1 : α1) (x2 : α2) (x3 : α3) (x4 : α4) (x5 : α5) (x6 : α6) (x7 : α7) (x8 : α8) (x9 : α9) (x10 : α10) (x11 : α11) (x12 : α12) (x13 : α13) (x14 : α14) (x15 : α15) (x16 : α16) (x17 : α17) (x18 : α18) (x19 : α19) (x20 : α20) (k : α0 → α1 → α2 → α3 → α4 → α5 → α6 → α7 → α8 → α9 → α10 → α11 → α12 → α13 → α14 → α15 → α16 → α17 → α18 → α19 → α20 → Option β) : ob21 (some (x0, x1, x2, x3, x4, x5, x6, x7, x8, x9, x10, x11, x12, x13, x14, x15, x16, x17, x18, x19, x20)) k = k x0 x1 x2 x3 x4 x5 x6 x7 x8 x9 x10 x11 x12 x13 x14 x15 x16 x17 x18 x19 x20 := (rfl)
theorem ob22_e {α0 α1 α2 α3 α4 α5 α6 α7 α8 α9 α10 α11 α12 α13 α14 α15 α16 α17 α18 α19 α20 α21 β : Type} (x0 : α0) (x1 : α1) (x2 : α2) (x3 : α3) (x4 : α4) (x5 : α5) (x6 : α6) (x7 : α7) (x8 : α8) (x9 : α9) (x10 : α10) (x11 : α11) (x12 : α12) (x13 : α13) (x14 : α14) (x15 : α15) (x16 : α16) (x17 : α17) (x18 : α18) (x19 : α19) (x20 : α20) (x21 : α21) (k : α0 → α1 → α2 → α3 → α4 → α5 → α6 → α7 → α8 → α9 → α10 → α11 → α12 → α13 → α14 → α15 → α16 → α17 → α18 → α19 → α20 → α21 → Option β) : ob22 (some (x0, x1, x2, x3, x4, x5, x6, x7, x8, x9, x10, x11, x12, x13, x14, x15, x16, x17, x18, x19, x20, x21)) k = k x0 x1 x2 x3 x4 x5 x6 x7 x8 x9 x10 x11 x12 x13 x14 x15 x16 x17 x18 x19 x20 x21 := (rfl)
theorem ob23_e {α0 α1 α2 α3 α4 α5 α6 α7 α8 α9 α10 α11 α12 α13 α14 α15 α16 α17 α18 α19 α20 α21 α22 β : Type} (x0 : α0) (x1 : α1) (x2 : α2) (x3 : α3) (x4 : α4) (x5 : α5) (x6 : α6) (x7 : α7) (x8 : α8) (x9 : α9) (x10 : α10) (x11 : α11) (x12 : α12) (x13 : α13) (x14 : α14) (x15 : α15) (x16 : α16) (x17 : α17) (x18 : α18) (x19 : α19) (x20 : α20) (x21 : α21) (x22 : α22) (k : α0 → α1 → α2 → α3 → α4 → α5 → α6 → α7 → α8 → α9 → α10 → α11 → α12 → α13 → α14 → α15 → α16 → α17 → α18 → α19 → α20 → α21 → α22 → Option β) : ob23 (some (x0, x1, x2, x3, x4, x5, x6, x7, x8, x9, x10, x11, x12, x13, x14, x15, x16, x17, x18, x19, x20, x21, x22)) k = k x0 x1 x2 x3 x4 x5 x6 x7 x8 x9 x10 x11 x12 x13 x14 x15 x16 x17 x18 x19 x20 x21 x22 := (rfl)
theorem ob24_e {α0 α1 α2 α3 α4 α5 α6 α7 α8 α9 α10 α11 α12 α13 α14 α15 α16 α17 α18 α19 α20 α21 α22 α23 β : Type} (x0 : α0) (x1 : α1) (x2 : α2) (x3 : α3) (x4 : α4) (x5 : α5) (x6 : α6) (x7 : α7) (x8 : α8) (x9 : α9) (x10 : α10) (x11 : α11) (x12 : α12) (x13 : α13) (x14 : α14) (x15 : α15) (x16 : α16) (x17 : α17) (x18 : α18) (x19 : α19) (x20 : α20) (x21 : α21) (x22 : α22) (x23 : α23) (k : α0 → α1 → α2 → α3 → α4 → α5 → α6 → α7 → α8 → α9 → α10 → α11 → α12 → α13 → α14 → α15 → α16 → α17 → α18 → α19 → α20 → α21 → α22 → α23 → Option β) : ob24 (some (x0, x1, x2, x3, x4, x5, x6, x7, x8, x9, x10, x11, x12, x13, x14, x15, x16, x17, x18, x19, x20, x21, x22, x23)) k = k x0 x1 x2 x3 x4 x5 x6 x7 x8 x9 x10 x11 x12 x13 x14 x15 x16 x17 x18 x19 x20 x21 x22 x23 := (rfl)
theorem ob25_e {α0 α1 α2 α3 α4 α5 α6 α7 α8 α9 α10 α11 α12 α13 α14 α15 α16 α17 α18 α19 α20 α21 α22 α23 α24 β : Type} (x0 : α0) (x1 : α1) (x2 : α2) (x3 : α3) (x4 : α4) (x5 : α5) (x6 : α6) (x7 : α7) (x8 : α8) (x9 : α9) (x10 : α10) (x11 : α11) (x12 : α12) (x13 : α13) (x14 : α14) (x15 : α15) (x16 : α16) (x17 : α17) (x18 : α18) (x19 : α19) (x20 : α20) (x21 : α21) (x22 : α22) (x23 : α23) (x24 : α24) (k : α0 → α1 → α2 → α3 → α4 → α5 → α6 → α7 → α8 → α9 → α10 → α11 → α12 → α13 → α14 → α15 → α16 → α17 → α18 → α19 → α20 → α21 → α22 → α23 → α24 → Option β) : ob25 (some (x0, x1, x2, x3, x4, x5, x6, x7, x8, x9, x10, x11, x12, x13, x14, x15, x16, x17, x18, x19, x20, x21, x22, x23, x24)) k = k x0 x1 x2 x3 x4 x5 x6 x7 x8 x9 x10 x11 x12 x13 x14 x15 x16 x17 x18 x19 x20 x21 x22 x23 x24 := (rfl)
theorem ob26_e {α0 α1 α2 α3 α4 α5 α6 α7 α8 α9 α10 α11 α12 α13 α14 α15 α16 α17 α18 α19 α20 α21 α22 α23 α24 α25 β : Type} (x0 : α0) (x1 : α1) (x2 : α2) (x3 : α3) (x4 : α4) (x5 : α5) (x6 : α6) (x7 : α7) (x8 : α8) (x9 : α9) (x10 : α10) (x11 : α11) (x12 : α12) (x13 : α13) (x14 : α14) (x15 : α15) (x16 : α16) (x17 : α17) (x18 : α18) (x19 : α19) (x20 : α20) (x21 : α21) (x22 : α22) (x23 : α23) (x24 : α24) (x25 : α25) (k : α0 → α1 → α2 → α3 → α4 → α5 → α6 → α7 → α8 → α9 → α10 → α11 → α12 → α13 → α14 → α15 → α16 → α17 → α18 → α19 → α20 → α21 → α22 → α23 → α24 → α25 → Option β) : ob26 (some (x0, x1, x2, x3, x4, x5, x6, x7, x8, x9, x10, x11, x12, x13, x14, x15, x16, x17, x18, x19, x20, x21, x22, x23, x24, x25)) k = k x0 x1 x2 x3 x4 x5 x6 x7 x8 x9 x10 x11 x12 x13 x14 x15 x16 x17 x18 x19 x20 x21 x22 x23 x24 x25 := (rfl)
theorem ob27_e {α0 α1 α2 α3 α4 α5 α6 α7 α8 α9 α10 α11 α12 α13 α14 α15 α16 α17 α18 α19 α20 α21 α22 α23 α24 α25 α26 β : Type} (x0 : α0) (x1 : α1) (x2 : α2) (x3 : α3) (x4 : α4) (x5 : α5) (x6 : α6) (x7 : α7) (x8 : α8) (x9 : α9) (x10 : α10) (x11 : α11) (x12 : α12) (x13 : α13) (x14 : α14) (x15 : α15) (x16 : α16) (x17 : α17) (x18 : α18) (x19 : α19) (x20 : α20) (x21 : α21) (x22 : α22) (x23 : α23) (x24 : α24) (x25 : α25) (x26 : α26) (k : α0 → α1 → α2 → α3 → α4 → α5 → α6 → α7 → α8 → α9 → α10 → α11 → α12 → α13 → α14 → α15 → α16 → α17 → α18 → α19 → α20 → α21 → α22 → α23 → α24 → α25 → α26 → Option β) : ob27 (some (x0, x1, x2, x3, x4, x5, x6, x7, x8, x9, x10, x11, x12, x13, x14, x15, x16, x17, x18, x19, x20, x21, x22, x23, x24, x25, x26)) k = k x0 x1 x2 x3 x4 x5 x6 x7 x8 x9 x10 x11 x12 x13 x14 x15 x16 x17 x18 x19 x20 x21 x22 x23 x24 x25 x26 := (rfl)
theorem ob28_e {α0 α1 α2 α3 α4 α5 α6 α7 α8 α9 α10 α11 α12 α13 α14 α15 α16 α17 α18 α19 α20 α21 α22 α23 α24 α25 α26 α27 β : Type} (x0 : α0) (x1 : α1) (x2 : α2) (x3 : α3) (x4 : α4) (x5 : α5) (x6 : α6) (x7 : α7) (x8 : α8) (x9 : α9) (x10 : α10) (x11 : α11) (x12 : α12) (x13 : α13) (x14 : α14) (x15 : α15) (x16 : α16) (x17 : α17) (x18 : α18) (x19 : α19) (x20 : α20) (x21 : α21) (x22 : α22) (x23 : α23) (x24 : α24) (x25 : α25) (x26 : α26) (x27 : α27) (k : α0 → α1 → α2 → α3 → α4 → α5 → α6 → α7 → α8 → α9 → α10 → α11 → α12 → α13 → α14 → α15 → α16 → α17 → α18 → α19 → α20 → α21 → α22 → α23 → α24 → α25 → α26 → α27 → Option β) : ob28 (some (x0, x1, x2, x3, x4, x5, x6, x7, x8, x9, x10, x11, x12, x13, x14, x15, x16, x17, x18, x19, x20, x21, x22, x23, x24, x25, x26, x27)) k = k x0 x1 x2 x3 x4 x5 x6 x7 x8 x9 x10 x11 x12 x13 x14 x15 x16 x17 x18 x19 x20 x21 x22 x23 x24 x25 x26 x27 := (rfl)
theorem ob29_e {α0 α1 α2 α3 α4 α5 α6 α7 α8 α9 α10 α11 α12 α13 α14 α15 α16 α17 α18 α19 α20 α21 α22 α23 α24 α25 α26 α27 α28 β : Type} (x0 : α0) (x1 : α1) (x2 : α2) (x3 : α3) (x4 : α4) (x5 : α5) (x6 : α6) (x7 : α7) (x8 : α8) (x9 : α9) (x10 : α10) (x11 : α11) (x12 : α12) (x13 : α13) (x14 : α14) (x15 : α15) (x16 : α16) (x17 : α17) (x18 : α18) (x19 : α19) (x20 : α20) (x21 : α21) (x22 : α22) (x23 : α23) (x24 : α24) (x25 : α25) (x26 : α26) (x27 : α27) (x28 : α28) (k : α0 → α1 → α2 → α3 → α4 → α5 → α6 → α7 → α8 → α9 → α10 → α11 → α12 → α13 → α14 → α15 → α16 → α17 → α18 → α19 → α20 → α21 → α22 → α23 → α24 → α25 → α26 → α27 → α28 → Option β) : ob29 (some (x0, x1, x2, x3, x4, x5, x6, x7, x8, x9, x10, x11, x12, x13, x14, x15, x16, x17, x18, x19, x20, x21, x22, x23, x24, x25, x26, x27, x28)) k = k x0 x1 x2 x3 x4 x5 x6 x7 x8 x9 x10 x11 x12 x13 x14 x15 x16 x17 x18 x19 x20 x21 x22 x23 x24 x25 x26 x27 x28 := (rfl)
theorem ob30_e {α0 α1 α2 α3 α4 α5 α6 α7 α8 α9 α10 α11 α12 α13 α14 α15 α16 α17 α18 α19 α20 α21 α22 α23 α24 α25 α26 α27 α28 α29 β : Type} (x0 : α0) (x1 : α1) (x2 : α2) (x3 : α3) (x4 : α4) (x5 : α5) (x6 : α6) (x7 : α7) (x8 : α8) (x9 : α9) (x10 : α10) (x11 : α11) (x12 : α12) (x13 : α13) (x14 : α14) (x15 : α15) (x16 : α16) (x17 : α17) (x18 : α18) (x19 : α19) (x20 : α20) (x21 : α21) (x22 : α22) (x23 : α23) (x24 : α24) (x25 : α25) (x26 : α26) (x27 : α27) (x28 : α28) (x29 : α29) (k : α0 → α1 → α2 → α3 → α4 → α5 → α6 → α7 → α8 → α9 → α10 → α11 → α12 → α13 → α14 → α15 → α16 → α17 → α18 → α19 → α20 → α21 → α22 → α23 → α24 → α25 → α26 → α27 → α28 → α29 → Option β) : ob30 (some (x0, x1, x2, x3, x4, x5, x6, x7, x8, x9, x10, x11, x12, x13, x14, x15, x16, x17, x18, x19, x20, x21, x22, x23, x24, x25, x26, x27, x28, x29)) k = k x0 x1 x2 x3 x4 x5 x6 x7 x8 x9 x10 x11 x12 x13 x14 x15 x16 x17 x18 x19 x20 x21 x22 x23 x24 x25 x26 x27 x28 x29 := (rfl)
theorem ob31_e {α0 α1 α2 α3 α4 α5 α6 α7 α8 α9 α10 α11 α12 α13 α14 α15 α16 α17 α18 α19 α20 α21 α22 α23 α24 α25 α26 α27 α28 α29 α30 β : Type} (x0 : α0) (x1 : α1) (x2 : α2) (x3 : α3) (x4 : α4) (x5 : α5) (x6 : α6) (x7 : α7) (x8 : α8) (x9 : α9) (x10 : α10) (x11 : α11) (x12 : α12) (x13 : α13) (x14 : α14) (x15 : α15) (x16 : α16) (x17 : α17) (x18 : α18) (x19 : α19) (x20 : α20) (x21 : α21) (x22 : α22) (x23 : α23) (x24 : α24) (x25 : α25) (x26 : α26) (x27 : α27) (x28 : α28) (x29 : α29) (x30 : α30) (k : α0 → α1 → α2 → α3 → α4 → α5 → α6 → α7 → α8 → α9 → α10 → α11 → α12 → α13 → α14 → α15 → α16 → α17 → α18 → α19 → α20 → α21 → α22 → α23 → α24 → α25 → α26 → α27 → α28 → α29 → α30 → Option β) : ob31 (some (x0, x1, x2, x3, x4, x5, x6, x7, x8, x9, x10, x11, x12, x13, x14, x15, x16, x17, x18, x19, x20, x21, x22, x23, x24, x25, x26, x27, x28, x29, x30)) k = k x0 x1 x2 x3 x4 x5 x6 x7 x8 x9 x10 x11 x12 x13 x14 x15 x16 x17 x18 x19 x20 x21 x22 x23 x24 x25 x26 x27 x28 x29 x30 := (rfl)
theorem ob32_e {α0 α1 α2 α3 α4 α5 α6 α7 α8 α9 α10 α11 α12 α13 α14 α15 α16 α17 α18 α19 α20 α21 α22 α23 α24 α25 α26 α27 α28 α29 α30 α31 β : Type} (x0 : α0) (x1 : α1) (x2 : α2) (x3 : α3) (x4 : α4) (x5 : α5) (x6 : α6) (x7 : α7) (x8 : α8) (x9 : α9) (x10 : α10) (x11 : α11) (x12 : α12) (x13 : α13) (x14 : α14) (x15 : α15) (x16 : α16) (x17 : α17) (x18 : α18) (x19 : α19) (x20 : α20) (x21 : α21) (x22 : α22) (x23 : α23) (x24 : α24) (x25 : α25) (x26 : α26) (x27 : α27) (x28 : α28) (x29 : α29) (x30 : α30) (x31 : α31) (k : α0 → α1 → α2 → α3 → α4 → α5 → α6 → α7 → α8 → α9 → α10 → α11 → α12 → α13 → α14 → α15 → α16 → α17 → α18 → α19 → α20 → α21 → α22 → α23 → α24 → α25 → α26 → α27 → α28 → α29 → α30 → α31 → Option β) : ob32 (some (x0, x1, x2, x3, x4, x5, x6, x7, x8, x9, x10, x11, x12, x13, x14, x15, x16, x17, x18, x19, x20, x21, x22, x23, x24, x25, x26, x27, x28, x29, x30, x31)) k = k x0 x1 x2 x3 x4 x5 x6 x7 x8 x9 x10 x11 x12 x13 x14 x15 x16 x17 x18 x19 x20 x21 x22 x23 x24 x25 x26 x27 x28 x29 x30 x31 := (rfl)
theorem ob33_e {α0 α1 α2 α3 α4 α5 α6 α7 α8 α9 α10 α11 α12 α13 α14 α15 α16 α17 α18 α19 α20 α21 α22 α23 α24 α25 α26 α27 α28 α29 α30 α31 α32 β : Type} (x0 : α0) (x1 : α1) (x2 : α2) (x3 : α3) (x4 : α4) (x5 : α5) (x6 : α6) (x7 : α7) (x8 : α8) (x9 : α9) (x10 : α10) (x11 : α11) (x12 : α12) (x13 : α13) (x14 : α14) (x15 : α15) (x16 : α16) (x17 : α17) (x18 : α18) (x19 : α19) (x20 : α20) (x21 : α21) (x22 : α22) (x23 : α23) (x24 : α24) (x25 : α25) (x26 : α26) (x27 : α27) (x28 : α28) (x29 : α29) (x30 : α30) (x31 : α31) (x32 : α32) (k : α0 → α1 → α2 → α3 → α4 → α5 → α6 → α7 → α8 → α9 → α10 → α11 → α12 → α13 → α14 → α15 → α16 → α17 → α18 → α19 → α20 → α21 → α22 → α23 → α24 → α25 → α26 → α27 → α28 → α29 → α30 → α31 → α32 → Option β) : ob33 (some (x0, x1, x2, x3, x4, x5, x6, x7, x8, x9, x10, x11, x12, x13, x14, x15, x16, x17, x18, x19, x20, x21, x22, x23, x24, x25, x26, x27, x28, x29, x30, x31, x32)) k = k x0 x1 x2 x3 x4 x5 x6 x7 x8 x9 x10 x11 x12 x13 x14 x15 x16 x17 x18 x19 x20 x21 x22 x23 x24 x25 x26 x27 x28 x29 x30 x31 x32 := (rfl)
theorem ob34_e {α0 α1 α2 α3 α4 α5 α6 α7 α8 α9 α10 α11 α12 α13 α14 α15 α16 α17 α18 α19 α20 α21 α22 α23 α24 α25 α26 α27 α28 α29 α30 α31 α32 α33 β : Type} (x0 : α0) (x1 : α1) (x2 : α2) (x3 : α3) (x4 : α4) (x5 : α5) (x6 : α6) (x7 : α7) (x8 : α8) (x9 : α9) (x10 : α10) (x11 : α11) (x12 : α12) (x13 : α13) (x14 : α14) (x15 : α15) (x16 : α16) (x17 : α17) (x18 : α18) (x19 : α19) (x20 : α20) (x21 : α21) (x22 : α22) (x23 : α23) (x24 : α24) (x25 : α25) (x26 : α26) (x27 : α27) (x28 : α28) (x29 : α29) (x30 : α30) (x31 : α31) (x32 : α32) (x33 : α33) (k : α0 → α1 → α2 → α3 → α4 → α5 → α6 → α7 → α8 → α9 → α10 → α11 → α12 → α13 → α14 → α15 → α16 → α17 → α18 → α19 → α20 → α21 → α22 → α23 → α24 → α25 → α26 → α27 → α28 → α29 → α30 → α31 → α32 → α33 → Option β) : ob34 (some (x0, x1, x2, x3, x4, x5, x6, x7, x8, x9, x10, x11, x12, x13, x14, x15, x16, x17, x18, x19, x20, x21, x22, x23, x24, x25, x26, x27, x28, x29, x30, x31, x32, x33)) k = k x0 x1 x2 x3 x4 x5 x6 x7 x8 x9 x10 x11 x12 x13 x14 x15 x16 x17 x18 x19 x20 x21 x22 x23 x24 x25 x26 x27 x28 x29 x30 x31 x32 x33 := (rfl)
theorem ob35_e {α0 α1 α2 α3 α4 α5 α6 α7 α8 α9 α10 α11 α12 α13 α14 α15 α16 α17 α18 α19 α20 α21 α22 α23 α24 α25 α26 α27 α28 α29 α30 α31 α32 α33 α34 β : Type} (x0 : α0) (x1 : α1) (x2 : α2) (x3 : α3) (x4 : α4) (x5 : α5) (x6 : α6) (x7 : α7) (x8 : α8) (x9 : α9) (x10 : α10) (x11 : α11) (x12 : α12) (x13 : α13) (x14 : α14) (x15 : α15) (x16 : α16) (x17 : α17) (x18 : α18) (x19 : α19) (x20 : α20) (x21 : α21) (x22 : α22) (x23 : α23) (x24 : α24) (x25 : α25) (x26 : α26) (x27 : α27) (x28 : α28) (x29 : α29) (x30 : α30) (x31 : α31) (x32 : α32) (x33 : α33) (x34 : α34) (k : α0 → α1 → α2 → α3 → α4 → α5 → α6 → α7 → α8 → α9 → α10 → α11 → α12 → α13 → α14 → α15 → α16 → α17 → α18 → α19 → α20 → α21 → α22 → α23 → α24 → α25 → α26 → α27 → α28 → α29 → α30 → α31 → α32 → α33 → α34 → Option β) : ob35 (some (x0, x1, x2, x3, x4, x5, x6, x7, x8, x9, x10, x11, x12, x13, x14, x15, x16, x17, x18, x19, x20, x21, x22, x23, x24, x25, x26, x27, x28, x29, x30, x31, x32, x33, x34)) k = k x0 x1 x2 x3 x4 x5 x6 x7 x8 x9 x10 x11 x12 x13 x14 x15 x16 x17 x18 x19 x20 x21 x22 x23 x24 x25 x26 x27 x28 x29 x30 x31 x32 x33 x34 := (rfl)
theorem ob36_e {α0 α1 α2 α3 α4 α5 α6 α7 α8 α9 α10 α11 α12 α13 α14 α15 α16 α17 α18 α19 α20 α21 α22 α23 α24 α25 α26 α27 α28 α29 α30 α31 α32 α33 α34 α35 β : Type} (x0 : α0) (x1 : α1) (x2 : α2) (x3 : α3) (x4 : α4) (x5 : α5) (x6 : α6) (x7 : α7) (x8 : α8) (x9 : α9) (x10 : α10) (x11 : α11) (x12 : α12) (x13 : α13) (x14 : α14) (x15 : α15) (x16 : α16) (x17 : α17) (x18 : α18) (x19 : α19) (x20 : α20) (x21 : α21) (x22 : α22) (x23 : α23) (x24 : α24) (x25 : α25) (x26 : α26) (x27 : α27) (x28 : α28) (x29 : α29) (x30 : α30) (x31 : α31) (x32 : α32) (x33 : α33) (x34 : α34) (x35 : α35) (k : α0 → α1 → α2 → α3 → α4 → α5 → α6 → α7 → α8 → α9 → α10 → α11 → α12 → α13 → α14 → α15 → α16 → α17 → α18 → α19 → α20 → α21 → α22 → α23 → α24 → α25 → α26 → α27 → α28 → α29 → α30 → α31 → α32 → α33 → α34 → α35 → Option β) : ob36 (some (x0, x1, x2, x3, x4, x5, x6, x7, x8, x9, x10, x11, x12, x13, x14, x15, x16, x17, x18, x19, x20, x21, x22, x23, x24, x25, x26, x27, x28, x29, x30, x31, x32, x33, x34, x35)) k = k x0 x1 x2 x3 x4 x5 x6 x7 x8 x9 x10 x11 x12 x13 x14 x15 x16 x17 x18 x19 x20 x21 x22 x23 x24 x25 x26 x27 x28 x29 x30 x31 x32 x33 x34 x35 := (rfl)
theorem ob37_e {α0 α1 α2 α3 α4 α5 α6 α7 α8 α9 α10 α11 α12 α13 α14 α15 α16 α17 α18 α19 α20 α21 α22 α23 α24 α25 α26 α27 α28 α29 α30 α31 α32 α33 α34 α35 α36 β : Type} (x0 : α0) (x1 : α1) (x2 : α2) (x3 : α3) (x4 : α4) (x5 : α5) (x6 : α6) (x7 : α7) (x8 : α8) (x9 : α9) (x10 : α10) (x11 : α11) (x12 : α12) (x13 : α13) (x14 : α14) (x15 : α15) (x16 : α16) (x17 : α17) (x18 : α18) (x19 : α19) (x20 : α20) (x21 : α21) (x22 : α22) (x23 : α23) (x24 : α24) (x25 : α25) (x26 : α26) (x27 : α27) (x28 : α28) (x29 : α29) (x30 : α30) (x31 : α31) (x32 : α32) (x33 : α33) (x34 : α34) (x35 : α35) (x36 : α36) (k : α0 → α1 → α2 → α3 → α4 → α5 → α6 → α7 → α8 → α9 → α10 → α11 → α12 → α13 → α14 → α15 → α16 → α17 → α18 → α19 → α20 → α21 → α22 → α23 → α24 → α25 → α26 → α27 → α28 → α29 → α30 → α31 → α32 → α33 → α34 → α35 → α36 → Option β) : ob37 (some (x0, x1, x2, x3, x4, x5, x6, x7, x8, x9, x10, x11, x12, x13, x14, x15, x16, x17, x18, x19, x20, x21, x22, x23, x24, x25, x26, x27, x28, x29, x30, x31, x32, x33, x34, x35, x36)) k = k x0 x1 x2 x3 x4 x5 x6 x7 x8 x9 x10 x11 x12 x13 x14 x15 x16 x17 x18 x19 x20 x21 x22 x23 x24 x25 x26 x27 x28 x29 x30 x31 x32 x33 x34 x35 x36 := (rfl)
/-! ranges by the model -/
theorem in_lo {x lo hi : Int32} (h : x < lo) : f_X12_in x lo hi = some 0 := by
  unfold f_X12_in b_X12_in_0
  rw [if_pos h]
theorem in_hi {x lo hi : Int32} (h : hi < x) : f_X12_in x lo hi = some 0 := by
  unfold f_X12_in b_X12_in_0
  by_cases h1 : x < lo
  · rw [if_pos h1]
  · rw [if_neg h1, if_pos h]
theorem in_y {x lo hi : Int32} (h : ¬ x < lo) (h2 : ¬ hi < x) : f_X12_in x lo hi = some 1 := by
  unfold f_X12_in b_X12_in_0
  rw [if_neg h, if_neg h2]
theorem in_c {j k : Nat} (h : j ≤ k ∧ k < 2 ^ 31) : f_X12_in (nI j) (nI 0) (nI k) = some (nI 1) := in_y (nI_nlt (by omega) (by omega)) (nI_nlt (by omega) (by omega))
theorem nI_gm1 {G : Nat} (x : Int32) (hG : G < 2 ^ 31 - 1) (h1 : nI G ≤ x) (h0 : ¬ x < nI 0) : nI G - nI 1 < x := by
  have h2 : (nI G).toInt = (G : Int) := nI_toInt (by omega)
  have h3 : (nI 1).toInt = (1 : Int) := by decide
  have h4 : (nI 0).toInt = (0 : Int) := by decide
  have h5 : (nI G - nI 1).toInt = (G : Int) - 1 := by
    rw [Int32.toInt_sub, h2, h3, Int.bmod_eq_of_le (by omega) (by omega)]
  rw [le32, h2] at h1
  rw [lt32, h4] at h0
  rw [lt32, h5]
  omega
theorem isZ_0 : isZ (nI 0) = true := (rfl)
theorem isZ_1 : isZ (nI 1) = true := (rfl)
/-! gloves and matters by both -/
theorem hasGlove_y {G g : Nat} (h : g < G ∧ G ≤ 6) : f_X5_hasGlove (nI G) (nI g) = some (nI 1) := by
  simp (disch := omega) only [f_X5_hasGlove, b_X5_hasGlove_0, neg_nI, lit_nI, nI_add, pk_mul, pk_sub, nI_clamp, inB_nI, gd_true, bnd_def, nI_leI, nI_ltI, nI_eq, nI_mI, mI_nI, nle_T, nle_F, nlt_T, nlt_F, neq_T, neq_F, ↓reduceIte, Nat.add_zero, Nat.zero_add, Nat.mul_zero, Nat.reduceAdd, Nat.reduceMul, Nat.reduceSub, ob1_e, ob2_e, ob3_e, ob4_e, ob6_e]
theorem hasMatter_y {G g : Nat} (h : g < G ∧ G ≤ 6) : f_X5_hasMatter (nI G) (nI g) = some (nI 1) := by
  simp (disch := omega) only [f_X5_hasMatter, b_X5_hasMatter_0, neg_nI, lit_nI, nI_add, pk_mul, pk_sub, nI_clamp, inB_nI, gd_true, bnd_def, nI_leI, nI_ltI, nI_eq, nI_mI, mI_nI, nle_T, nle_F, nlt_T, nlt_F, neq_T, neq_F, ↓reduceIte, Nat.add_zero, Nat.zero_add, Nat.mul_zero, Nat.reduceAdd, Nat.reduceMul, Nat.reduceSub, ob1_e, ob2_e, ob3_e, ob4_e, ob6_e]
theorem isGlove_y {G g : Nat} (h : g < G ∧ G ≤ 6) : f_X12_isGlove (nI G) (nI g) = some (nI 1) := by
  simp (disch := omega) only [f_X12_isGlove, b_X12_isGlove_0, neg_nI, lit_nI, nI_add, pk_mul, pk_sub, nI_clamp, inB_nI, gd_true, bnd_def, nI_leI, nI_ltI, nI_eq, nI_mI, mI_nI, nle_T, nle_F, nlt_T, nlt_F, neq_T, neq_F, ↓reduceIte, Nat.add_zero, Nat.zero_add, Nat.mul_zero, Nat.reduceAdd, Nat.reduceMul, Nat.reduceSub, ob1_e, ob2_e, ob3_e, ob4_e, ob6_e, in_c, isZ_1]
theorem isMatter_y {G g : Nat} (h : g < G ∧ G ≤ 6) : f_X12_isMatter (nI G) (nI g) = some (nI 1) := by
  simp (disch := omega) only [f_X12_isMatter, b_X12_isMatter_0, neg_nI, lit_nI, nI_add, pk_mul, pk_sub, nI_clamp, inB_nI, gd_true, bnd_def, nI_leI, nI_ltI, nI_eq, nI_mI, mI_nI, nle_T, nle_F, nlt_T, nlt_F, neq_T, neq_F, ↓reduceIte, Nat.add_zero, Nat.zero_add, Nat.mul_zero, Nat.reduceAdd, Nat.reduceMul, Nat.reduceSub, ob1_e, ob2_e, ob3_e, ob4_e, ob6_e, in_c, isZ_1]
theorem glove_or (x : Int32) {G : Nat} (hG : G ≤ 6) : (∃ g, g < G ∧ x = nI g) ∨ (f_X5_hasGlove (nI G) x = some (nI 0) ∧ f_X12_isGlove (nI G) x = some (nI 0)) := by
  rcases rngN x G (by omega) with h | h | ⟨h0, h1, h2⟩
  · exact Or.inl h
  · refine Or.inr ⟨?_, ?_⟩
    · simp (disch := omega) only [f_X5_hasGlove, b_X5_hasGlove_0, neg_nI, lit_nI, nI_add, pk_mul, pk_sub, nI_clamp, inB_nI, gd_true, bnd_def, nI_leI, nI_ltI, nI_eq, nI_mI, mI_nI, nle_T, nle_F, nlt_T, nlt_F, neq_T, neq_F, ↓reduceIte, Nat.add_zero, Nat.zero_add, Nat.mul_zero, Nat.reduceAdd, Nat.reduceMul, Nat.reduceSub, ob1_e, ob2_e, ob3_e, ob4_e, ob6_e, h]
    · simp only [f_X12_isGlove, b_X12_isGlove_0, neg_nI, lit_nI, nI_add, pk_mul, pk_sub, nI_clamp, inB_nI, gd_true, bnd_def, nI_leI, nI_ltI, nI_eq, nI_mI, mI_nI, nle_T, nle_F, nlt_T, nlt_F, neq_T, neq_F, ↓reduceIte, Nat.add_zero, Nat.zero_add, Nat.mul_zero, Nat.reduceAdd, Nat.reduceMul, Nat.reduceSub, ob1_e, ob2_e, ob3_e, ob4_e, ob6_e, in_lo h, isZ_0]
  · refine Or.inr ⟨?_, ?_⟩
    · simp (disch := omega) only [f_X5_hasGlove, b_X5_hasGlove_0, neg_nI, lit_nI, nI_add, pk_mul, pk_sub, nI_clamp, inB_nI, gd_true, bnd_def, nI_leI, nI_ltI, nI_eq, nI_mI, mI_nI, nle_T, nle_F, nlt_T, nlt_F, neq_T, neq_F, ↓reduceIte, Nat.add_zero, Nat.zero_add, Nat.mul_zero, Nat.reduceAdd, Nat.reduceMul, Nat.reduceSub, ob1_e, ob2_e, ob3_e, ob4_e, ob6_e, h0, h1]
    · simp only [f_X12_isGlove, b_X12_isGlove_0, neg_nI, lit_nI, nI_add, pk_mul, pk_sub, nI_clamp, inB_nI, gd_true, bnd_def, nI_leI, nI_ltI, nI_eq, nI_mI, mI_nI, nle_T, nle_F, nlt_T, nlt_F, neq_T, neq_F, ↓reduceIte, Nat.add_zero, Nat.zero_add, Nat.mul_zero, Nat.reduceAdd, Nat.reduceMul, Nat.reduceSub, ob1_e, ob2_e, ob3_e, ob4_e, ob6_e, in_hi (lo := nI 0) (nI_gm1 x (by omega) h1 h0), isZ_0]
theorem matter_or (x : Int32) {M : Nat} (hG : M ≤ 6) : (∃ g, g < M ∧ x = nI g) ∨ (f_X5_hasMatter (nI M) x = some (nI 0) ∧ f_X12_isMatter (nI M) x = some (nI 0)) := by
  rcases rngN x M (by omega) with h | h | ⟨h0, h1, h2⟩
  · exact Or.inl h
  · refine Or.inr ⟨?_, ?_⟩
    · simp (disch := omega) only [f_X5_hasMatter, b_X5_hasMatter_0, neg_nI, lit_nI, nI_add, pk_mul, pk_sub, nI_clamp, inB_nI, gd_true, bnd_def, nI_leI, nI_ltI, nI_eq, nI_mI, mI_nI, nle_T, nle_F, nlt_T, nlt_F, neq_T, neq_F, ↓reduceIte, Nat.add_zero, Nat.zero_add, Nat.mul_zero, Nat.reduceAdd, Nat.reduceMul, Nat.reduceSub, ob1_e, ob2_e, ob3_e, ob4_e, ob6_e, h]
    · simp only [f_X12_isMatter, b_X12_isMatter_0, neg_nI, lit_nI, nI_add, pk_mul, pk_sub, nI_clamp, inB_nI, gd_true, bnd_def, nI_leI, nI_ltI, nI_eq, nI_mI, mI_nI, nle_T, nle_F, nlt_T, nlt_F, neq_T, neq_F, ↓reduceIte, Nat.add_zero, Nat.zero_add, Nat.mul_zero, Nat.reduceAdd, Nat.reduceMul, Nat.reduceSub, ob1_e, ob2_e, ob3_e, ob4_e, ob6_e, in_lo h, isZ_0]
  · refine Or.inr ⟨?_, ?_⟩
    · simp (disch := omega) only [f_X5_hasMatter, b_X5_hasMatter_0, neg_nI, lit_nI, nI_add, pk_mul, pk_sub, nI_clamp, inB_nI, gd_true, bnd_def, nI_leI, nI_ltI, nI_eq, nI_mI, mI_nI, nle_T, nle_F, nlt_T, nlt_F, neq_T, neq_F, ↓reduceIte, Nat.add_zero, Nat.zero_add, Nat.mul_zero, Nat.reduceAdd, Nat.reduceMul, Nat.reduceSub, ob1_e, ob2_e, ob3_e, ob4_e, ob6_e, h0, h1]
    · simp only [f_X12_isMatter, b_X12_isMatter_0, neg_nI, lit_nI, nI_add, pk_mul, pk_sub, nI_clamp, inB_nI, gd_true, bnd_def, nI_leI, nI_ltI, nI_eq, nI_mI, mI_nI, nle_T, nle_F, nlt_T, nlt_F, neq_T, neq_F, ↓reduceIte, Nat.add_zero, Nat.zero_add, Nat.mul_zero, Nat.reduceAdd, Nat.reduceMul, Nat.reduceSub, ob1_e, ob2_e, ob3_e, ob4_e, ob6_e, in_hi (lo := nI 0) (nI_gm1 x (by omega) h1 h0), isZ_0]
theorem of_c {mg : Nat → Int32} {g k : Nat} (h : g < 6 ∧ k < 4) : f_X12_of mg (nI g) (nI k) = some (mg (4 * g + k)) := by
  simp (disch := omega) only [f_X12_of, b_X12_of_0, neg_nI, lit_nI, nI_add, pk_mul, pk_sub, nI_clamp, inB_nI, gd_true, bnd_def, nI_leI, nI_ltI, nI_eq, nI_mI, mI_nI, nle_T, nle_F, nlt_T, nlt_F, neq_T, neq_F, ↓reduceIte, Nat.add_zero, Nat.zero_add, Nat.mul_zero, Nat.reduceAdd, Nat.reduceMul, Nat.reduceSub, ob1_e, ob2_e, ob3_e, ob4_e, ob6_e]
theorem unlike_c {th : Nat → Int32} {G a b : Nat} (h : a < G ∧ b < G ∧ G ≤ 6) : f_X5_unlike (nI G) th (nI a) (nI b) = some (if th a = th b then nI 0 else nI 1) := by
  by_cases hp : th a = th b <;> simp (disch := omega) only [f_X5_unlike, b_X5_unlike_0, hasGlove_y, hp, neg_nI, lit_nI, nI_add, pk_mul, pk_sub, nI_clamp, inB_nI, gd_true, bnd_def, nI_leI, nI_ltI, nI_eq, nI_mI, mI_nI, nle_T, nle_F, nlt_T, nlt_F, neq_T, neq_F, ↓reduceIte, Nat.add_zero, Nat.zero_add, Nat.mul_zero, Nat.reduceAdd, Nat.reduceMul, Nat.reduceSub, ob1_e, ob2_e, ob3_e, ob4_e, ob6_e]
theorem areTwo_c {mg : Nat → Int32} {G a b : Nat} (h : a < G ∧ b < G ∧ G ≤ 6) : f_X12_areTwo (nI G) mg (nI a) (nI b) = some (if mg (4 * a) = mg (4 * b) then nI 0 else nI 1) := by
  by_cases hp : mg (4 * a) = mg (4 * b) <;> simp (disch := omega) only [f_X12_areTwo, b_X12_areTwo_0, isGlove_y, of_c, hp, neg_nI, lit_nI, nI_add, pk_mul, pk_sub, nI_clamp, inB_nI, gd_true, bnd_def, nI_leI, nI_ltI, nI_eq, nI_mI, mI_nI, nle_T, nle_F, nlt_T, nlt_F, neq_T, neq_F, ↓reduceIte, Nat.add_zero, Nat.zero_add, Nat.mul_zero, Nat.reduceAdd, Nat.reduceMul, Nat.reduceSub, ob1_e, ob2_e, ob3_e, ob4_e, ob6_e]
theorem two_or (x y : Int32) {G : Nat} {th mg : Nat → Int32} (hG : G ≤ 6) (hh : ∀ g, g < G → mg (4 * g) = th g) : (∃ g o, g < G ∧ o < G ∧ x = nI g ∧ y = nI o ∧ ¬ th g = th o) ∨ (f_X5_unlike (nI G) th x y = some (nI 0) ∧ f_X12_areTwo (nI G) mg x y = some (nI 0)) := by
  rcases glove_or x hG with ⟨g, hg, rfl⟩ | ⟨h1, h2⟩
  · rcases glove_or y hG with ⟨o, ho, rfl⟩ | ⟨h1, h2⟩
    · by_cases hp : th g = th o
      · refine Or.inr ⟨?_, ?_⟩
        · rw [unlike_c ⟨hg, ho, hG⟩, if_pos hp]
        · rw [areTwo_c ⟨hg, ho, hG⟩, hh g hg, hh o ho, if_pos hp]
      · exact Or.inl ⟨g, o, hg, ho, rfl, rfl, hp⟩
    · refine Or.inr ⟨?_, ?_⟩
      · simp (disch := omega) only [f_X5_unlike, b_X5_unlike_0, hasGlove_y, h1, neg_nI, lit_nI, nI_add, pk_mul, pk_sub, nI_clamp, inB_nI, gd_true, bnd_def, nI_leI, nI_ltI, nI_eq, nI_mI, mI_nI, nle_T, nle_F, nlt_T, nlt_F, neq_T, neq_F, ↓reduceIte, Nat.add_zero, Nat.zero_add, Nat.mul_zero, Nat.reduceAdd, Nat.reduceMul, Nat.reduceSub, ob1_e, ob2_e, ob3_e, ob4_e, ob6_e]
      · simp (disch := omega) only [f_X12_areTwo, b_X12_areTwo_0, isGlove_y, h2, neg_nI, lit_nI, nI_add, pk_mul, pk_sub, nI_clamp, inB_nI, gd_true, bnd_def, nI_leI, nI_ltI, nI_eq, nI_mI, mI_nI, nle_T, nle_F, nlt_T, nlt_F, neq_T, neq_F, ↓reduceIte, Nat.add_zero, Nat.zero_add, Nat.mul_zero, Nat.reduceAdd, Nat.reduceMul, Nat.reduceSub, ob1_e, ob2_e, ob3_e, ob4_e, ob6_e]
  · refine Or.inr ⟨?_, ?_⟩
    · simp (disch := omega) only [f_X5_unlike, b_X5_unlike_0, h1, neg_nI, lit_nI, nI_add, pk_mul, pk_sub, nI_clamp, inB_nI, gd_true, bnd_def, nI_leI, nI_ltI, nI_eq, nI_mI, mI_nI, nle_T, nle_F, nlt_T, nlt_F, neq_T, neq_F, ↓reduceIte, Nat.add_zero, Nat.zero_add, Nat.mul_zero, Nat.reduceAdd, Nat.reduceMul, Nat.reduceSub, ob1_e, ob2_e, ob3_e, ob4_e, ob6_e]
    · simp (disch := omega) only [f_X12_areTwo, b_X12_areTwo_0, h2, neg_nI, lit_nI, nI_add, pk_mul, pk_sub, nI_clamp, inB_nI, gd_true, bnd_def, nI_leI, nI_ltI, nI_eq, nI_mI, mI_nI, nle_T, nle_F, nlt_T, nlt_F, neq_T, neq_F, ↓reduceIte, Nat.add_zero, Nat.zero_add, Nat.mul_zero, Nat.reduceAdd, Nat.reduceMul, Nat.reduceSub, ob1_e, ob2_e, ob3_e, ob4_e, ob6_e]
/-! places -/
def pl (a b : Nat) : Nat := if b ≤ a then b * 6 + a else a * 6 + b
def cd (a b : Nat) : Nat := if b ≤ a then 10 * b + a else 10 * a + b
set_option maxRecDepth 100000 in
theorem placeOf_a : ∀ a, a < 6 → ∀ b, b < 6 → f_X9_placeOf (nI a) (nI b) = some (nI (pl a b)) := by decide +kernel
set_option maxRecDepth 100000 in
theorem pairAt_a : ∀ a, a < 6 → ∀ b, b < 6 → f_X12_pairAt (nI a) (nI b) = some (nI (pl a b)) := by decide +kernel
set_option maxRecDepth 100000 in
theorem codeOf_a : ∀ a, a < 6 → ∀ b, b < 6 → f_X12_codeOf (nI a) (nI b) = some (nI (cd a b)) := by decide +kernel
theorem placeOf_c {a b : Nat} (h : a < 6 ∧ b < 6) : f_X9_placeOf (nI a) (nI b) = some (nI (pl a b)) := placeOf_a a h.1 b h.2
theorem pairAt_c {a b : Nat} (h : a < 6 ∧ b < 6) : f_X12_pairAt (nI a) (nI b) = some (nI (pl a b)) := pairAt_a a h.1 b h.2
theorem codeOf_c {a b : Nat} (h : a < 6 ∧ b < 6) : f_X12_codeOf (nI a) (nI b) = some (nI (cd a b)) := codeOf_a a h.1 b h.2
theorem pl_lt {a b : Nat} (h : a < 6 ∧ b < 6) : pl a b < 36 := by unfold pl; split <;> omega
theorem pl_comm (a b : Nat) : pl a b = pl b a := by unfold pl; split <;> split <;> omega
theorem inB_pl {a b N : Nat} (h : a < 6 ∧ b < 6 ∧ 36 ≤ N ∧ N < 2 ^ 31) : inB (nI (pl a b)) N = true := inB_nI ⟨Nat.lt_of_lt_of_le (pl_lt ⟨h.1, h.2.1⟩) h.2.2.1, h.2.2.2⟩
theorem pl_clamp {a b : Nat} (h : a < 6 ∧ b < 6) : (nI (pl a b)).toNatClampNeg = pl a b := nI_clamp (by have := pl_lt h; omega)
/-! the state's cells, by the class -/
theorem free_c {c : Nat → Int32} {g : Nat} (h : g < 6) : f_X9_free c (nI g) = some (c (36 + g)) := by
  simp (disch := omega) only [f_X9_free, b_X9_free_0, neg_nI, lit_nI, nI_add, pk_mul, pk_sub, nI_clamp, inB_nI, gd_true, bnd_def, nI_leI, nI_ltI, nI_eq, nI_mI, mI_nI, nle_T, nle_F, nlt_T, nlt_F, neq_T, neq_F, ↓reduceIte, Nat.add_zero, Nat.zero_add, Nat.mul_zero, Nat.reduceAdd, Nat.reduceMul, Nat.reduceSub, ob1_e, ob2_e, ob3_e, ob4_e, ob6_e]
theorem stuffed_c {c : Nat → Int32} {g : Nat} (h : g < 6) : f_X9_stuffed c (nI g) = some (c (42 + g)) := by
  simp (disch := omega) only [f_X9_stuffed, b_X9_stuffed_0, neg_nI, lit_nI, nI_add, pk_mul, pk_sub, nI_clamp, inB_nI, gd_true, bnd_def, nI_leI, nI_ltI, nI_eq, nI_mI, mI_nI, nle_T, nle_F, nlt_T, nlt_F, neq_T, neq_F, ↓reduceIte, Nat.add_zero, Nat.zero_add, Nat.mul_zero, Nat.reduceAdd, Nat.reduceMul, Nat.reduceSub, ob1_e, ob2_e, ob3_e, ob4_e, ob6_e]
theorem knows_c {c : Nat → Int32} {g : Nat} (h : g < 6) : f_X9_knows c (nI g) = some (c (48 + g)) := by
  simp (disch := omega) only [f_X9_knows, b_X9_knows_0, neg_nI, lit_nI, nI_add, pk_mul, pk_sub, nI_clamp, inB_nI, gd_true, bnd_def, nI_leI, nI_ltI, nI_eq, nI_mI, mI_nI, nle_T, nle_F, nlt_T, nlt_F, neq_T, neq_F, ↓reduceIte, Nat.add_zero, Nat.zero_add, Nat.mul_zero, Nat.reduceAdd, Nat.reduceMul, Nat.reduceSub, ob1_e, ob2_e, ob3_e, ob4_e, ob6_e]
theorem signers_c {c : Nat → Int32} {g : Nat} (h : g < 5) : f_X9_signers c (nI g) = some (c (60 + g)) := by
  simp (disch := omega) only [f_X9_signers, b_X9_signers_0, neg_nI, lit_nI, nI_add, pk_mul, pk_sub, nI_clamp, inB_nI, gd_true, bnd_def, nI_leI, nI_ltI, nI_eq, nI_mI, mI_nI, nle_T, nle_F, nlt_T, nlt_F, neq_T, neq_F, ↓reduceIte, Nat.add_zero, Nat.zero_add, Nat.mul_zero, Nat.reduceAdd, Nat.reduceMul, Nat.reduceSub, ob1_e, ob2_e, ob3_e, ob4_e, ob6_e]
theorem pride_c {c : Nat → Int32} : f_X9_pride c = some (c 66) := (rfl)
theorem coins_c {c : Nat → Int32} : f_X9_coins c = some (c 67) := (rfl)
theorem day_c {c : Nat → Int32} : f_X9_day c = some (c 68) := (rfl)
theorem hasMet_c {c : Nat → Int32} {g : Nat} (h : g < 6) : f_X9_hasMet c (nI g) = some (if c (54 + g) = mI 1 then nI 0 else nI 1) := by
  by_cases hp : c (54 + g) = mI 1 <;> simp (disch := omega) only [f_X9_hasMet, b_X9_hasMet_0, hp, neg_nI, lit_nI, nI_add, pk_mul, pk_sub, nI_clamp, inB_nI, gd_true, bnd_def, nI_leI, nI_ltI, nI_eq, nI_mI, mI_nI, nle_T, nle_F, nlt_T, nlt_F, neq_T, neq_F, ↓reduceIte, Nat.add_zero, Nat.zero_add, Nat.mul_zero, Nat.reduceAdd, Nat.reduceMul, Nat.reduceSub, ob1_e, ob2_e, ob3_e, ob4_e, ob6_e]
theorem isFree_c {c : Nat → Int32} {g : Nat} (h : g < 6) : f_X12_isFree c (nI g) = some (if c (54 + g) = mI 1 then nI 1 else nI 0) := by
  by_cases hp : c (54 + g) = mI 1 <;> simp (disch := omega) only [f_X12_isFree, b_X12_isFree_0, hp, neg_nI, lit_nI, nI_add, pk_mul, pk_sub, nI_clamp, inB_nI, gd_true, bnd_def, nI_leI, nI_ltI, nI_eq, nI_mI, mI_nI, nle_T, nle_F, nlt_T, nlt_F, neq_T, neq_F, ↓reduceIte, Nat.add_zero, Nat.zero_add, Nat.mul_zero, Nat.reduceAdd, Nat.reduceMul, Nat.reduceSub, ob1_e, ob2_e, ob3_e, ob4_e, ob6_e]
theorem warmthOf_c {c : Nat → Int32} {a b : Nat} (h : a < 6 ∧ b < 6) : f_X9_warmthOf c (nI a) (nI b) = some (c (pl a b)) := by
  simp (disch := omega) only [f_X9_warmthOf, b_X9_warmthOf_0, placeOf_c, inB_pl, pl_clamp, neg_nI, lit_nI, nI_add, pk_mul, pk_sub, nI_clamp, inB_nI, gd_true, bnd_def, nI_leI, nI_ltI, nI_eq, nI_mI, mI_nI, nle_T, nle_F, nlt_T, nlt_F, neq_T, neq_F, ↓reduceIte, Nat.add_zero, Nat.zero_add, Nat.mul_zero, Nat.reduceAdd, Nat.reduceMul, Nat.reduceSub, ob1_e, ob2_e, ob3_e, ob4_e, ob6_e]
theorem sameAim_c {ta : Nat → Int32} {a b : Nat} (h : a < 6 ∧ b < 6) : f_X5_sameAim ta (nI a) (nI b) = some (if ta a = ta b then nI 1 else nI 0) := by
  by_cases hp : ta a = ta b <;> simp (disch := omega) only [f_X5_sameAim, b_X5_sameAim_0, hp, neg_nI, lit_nI, nI_add, pk_mul, pk_sub, nI_clamp, inB_nI, gd_true, bnd_def, nI_leI, nI_ltI, nI_eq, nI_mI, mI_nI, nle_T, nle_F, nlt_T, nlt_F, neq_T, neq_F, ↓reduceIte, Nat.add_zero, Nat.zero_add, Nat.mul_zero, Nat.reduceAdd, Nat.reduceMul, Nat.reduceSub, ob1_e, ob2_e, ob3_e, ob4_e, ob6_e]
theorem areAllies_c {mg : Nat → Int32} {a b : Nat} (h : a < 6 ∧ b < 6) : f_X12_areAllies mg (nI a) (nI b) = some (if mg (4 * a + 3) = mg (4 * b + 3) then nI 1 else nI 0) := by
  by_cases hp : mg (4 * a + 3) = mg (4 * b + 3) <;> simp (disch := omega) only [f_X12_areAllies, b_X12_areAllies_0, of_c, hp, neg_nI, lit_nI, nI_add, pk_mul, pk_sub, nI_clamp, inB_nI, gd_true, bnd_def, nI_leI, nI_ltI, nI_eq, nI_mI, mI_nI, nle_T, nle_F, nlt_T, nlt_F, neq_T, neq_F, ↓reduceIte, Nat.add_zero, Nat.zero_add, Nat.mul_zero, Nat.reduceAdd, Nat.reduceMul, Nat.reduceSub, ob1_e, ob2_e, ob3_e, ob4_e, ob6_e]
def hd (x : Int32) : Int32 := mx 0 (mn 99 x)
theorem held_c {x : Int32} : f_X12_held x = some (hd x) := (rfl)
end
section
/-! how warmth rises, as a word R of six numbers; the law's own text stays closed -/
abbrev R6 : Type := Int32 → Int32 → Int32 → Int32 → Int32 → Int32 → Int32
def RiseX (R : R6) (lh : Int32) (ll l0 l1 l2 l3 : Nat → Int32) : Prop := ∀ (lt st : Nat → Int32) (a b c d e f : Int32), ∃ lt' st', f_X2_riseBy lh ll l0 l1 l2 l3 lt st a b c d e f = some (R a b c d e f, lt', st')
def RiseY (R : R6) (mh : Int32) (mc mv mk mt ms mu : Nat → Int32) : Prop := ∀ (lt st : Nat → Int32) (a b c d e f : Int32), (d = nI 0 ∨ d = nI 1) → ∃ lt' st', f_X12_riseBy mh mc mv mk mt ms mu lt st a b c d e f = some (R a b c d e f, lt', st')
def RiseB (R : R6) : Prop := ∀ a b c d e f : Int32, -9 ≤ (R a b c d e f).toInt ∧ (R a b c d e f).toInt ≤ 9
def rv (R : R6) (ta c : Nat → Int32) (g o : Nat) (w d : Int32) : Int32 := R (c (36 + g) + c (36 + o)) (c (42 + g) + c (42 + o)) w (if ta g = ta o then nI 1 else nI 0) (c 66) d
def tA (mg : Nat → Int32) : Nat → Int32 := fun g => mg (4 * g + 3)
section RS
variable {R : R6} {lh : Int32} {ll l0 l1 l2 l3 : Nat → Int32} {mh : Int32} {mc mv mk mt ms mu : Nat → Int32}
theorem riseAt_c (hR : RiseX R lh ll l0 l1 l2 l3) {ta c lt st : Nat → Int32} {g o : Nat} {w d : Int32} (h : g < 6 ∧ o < 6) : ∃ lt' st', f_X9_riseAt ta lh ll l0 l1 l2 l3 c lt st (nI g) (nI o) w d = some (rv R ta c g o w d, lt', st') := by
  obtain ⟨lt', st', e⟩ := hR lt st (c (36 + g) + c (36 + o)) (c (42 + g) + c (42 + o)) w (if ta g = ta o then nI 1 else nI 0) (c 66) d
  refine ⟨lt', st', ?_⟩
  simp (disch := omega) only [f_X9_riseAt, b_X9_riseAt_0, free_c, stuffed_c, sameAim_c, pride_c, e, rv, ob1_e, ob2_e, ob3_e, ob4_e, ob6_e]
theorem riseOf_c (hR : RiseX R lh ll l0 l1 l2 l3) {ta c lt st : Nat → Int32} {g o : Nat} (h : g < 6 ∧ o < 6) : ∃ lt' st', f_X9_riseOf ta lh ll l0 l1 l2 l3 c lt st (nI g) (nI o) = some (rv R ta c g o (c (pl g o)) (c 68), lt', st') := by
  obtain ⟨lt', st', e⟩ := riseAt_c hR (ta := ta) (c := c) (lt := lt) (st := st) (w := c (pl g o)) (d := c 68) h
  refine ⟨lt', st', ?_⟩
  simp (disch := omega) only [f_X9_riseOf, b_X9_riseOf_0, warmthOf_c, day_c, e, ob1_e, ob2_e, ob3_e, ob4_e, ob6_e]
theorem warmer_c (hR : RiseX R lh ll l0 l1 l2 l3) {ta c lt st : Nat → Int32} {g o : Nat} {w k : Int32} (h : g < 6 ∧ o < 6) : ∃ lt' st', f_X9_warmer ta lh ll l0 l1 l2 l3 c lt st (nI g) (nI o) w k = some (hd (w + rv R ta c g o w (mn 999 (c 68 + k))), lt', st') := by
  obtain ⟨lt', st', e⟩ := riseAt_c hR (ta := ta) (c := c) (lt := lt) (st := st) (w := w) (d := mn 999 (c 68 + k)) h
  refine ⟨lt', st', ?_⟩
  simp only [f_X9_warmer, b_X9_warmer_0, day_c, e, hd, bnd_def, ob1_e, ob2_e, ob3_e, ob4_e, ob6_e]
theorem riseFrom_c (hR : RiseY R mh mc mv mk mt ms mu) {mg m lt st : Nat → Int32} {g o : Nat} {w d : Int32} (h : g < 6 ∧ o < 6) : ∃ lt' st', f_X12_riseFrom mh mc mv mk mt ms mu mg m lt st (nI g) (nI o) w d = some (rv R (tA mg) m g o w d, lt', st') := by
  obtain ⟨lt', st', e⟩ := hR lt st (m (36 + g) + m (36 + o)) (m (42 + g) + m (42 + o)) w (if mg (4 * g + 3) = mg (4 * o + 3) then nI 1 else nI 0) (m 66) d (by split; exact Or.inr rfl; exact Or.inl rfl)
  refine ⟨lt', st', ?_⟩
  simp (disch := omega) only [f_X12_riseFrom, b_X12_riseFrom_0, areAllies_c, e, neg_nI, lit_nI, nI_add, pk_mul, pk_sub, nI_clamp, inB_nI, gd_true, bnd_def, nI_leI, nI_ltI, nI_eq, nI_mI, mI_nI, nle_T, nle_F, nlt_T, nlt_F, neq_T, neq_F, ↓reduceIte, Nat.add_zero, Nat.zero_add, Nat.mul_zero, Nat.reduceAdd, Nat.reduceMul, Nat.reduceSub, ob1_e, ob2_e, ob3_e, ob4_e, ob6_e]
  rfl
theorem riseOfY_c (hR : RiseY R mh mc mv mk mt ms mu) {mg m lt st : Nat → Int32} {g o : Nat} (h : g < 6 ∧ o < 6) : ∃ lt' st', f_X12_riseOf mh mc mv mk mt ms mu mg m lt st (nI g) (nI o) = some (rv R (tA mg) m g o (m (pl g o)) (m 68), lt', st') := by
  obtain ⟨lt', st', e⟩ := riseFrom_c hR (mg := mg) (m := m) (lt := lt) (st := st) (w := m (pl g o)) (d := m 68) h
  refine ⟨lt', st', ?_⟩
  simp (disch := omega) only [f_X12_riseOf, b_X12_riseOf_0, pairAt_c, inB_pl, pl_clamp, e, neg_nI, lit_nI, nI_add, pk_mul, pk_sub, nI_clamp, inB_nI, gd_true, bnd_def, nI_leI, nI_ltI, nI_eq, nI_mI, mI_nI, nle_T, nle_F, nlt_T, nlt_F, neq_T, neq_F, ↓reduceIte, Nat.add_zero, Nat.zero_add, Nat.mul_zero, Nat.reduceAdd, Nat.reduceMul, Nat.reduceSub, ob1_e, ob2_e, ob3_e, ob4_e, ob6_e]
end RS
theorem hd_r (x : Int32) : ∃ w, w ≤ 99 ∧ hd x = nI w := by
  unfold hd
  by_cases h : x < 99
  · rw [show mn 99 x = x from if_pos h]
    by_cases h0 : (0 : Int32) < x
    · rw [show mx 0 x = x from if_pos h0]
      obtain ⟨j, hj, e⟩ | h1 | ⟨h1, h2, h3⟩ := rng x 99 (by decide)
      · exact ⟨j, hj, e⟩
      · exact absurd h1 (by rw [lt32] at h0 ⊢; have : (nI 0).toInt = (0 : Int32).toInt := rfl; omega)
      · exact absurd h2 (by rw [lt32] at h ⊢; have : (nI 99).toInt = (99 : Int32).toInt := rfl; omega)
    · rw [show mx 0 x = 0 from if_neg h0]
      exact ⟨0, by omega, rfl⟩
  · rw [show mn 99 x = 99 from if_neg h]
    exact ⟨99, by omega, rfl⟩
/-- the cells in use, of the class's row and of the model's, are the same -/
def RN (G M : Nat) (c m : Nat → Int32) : Prop := ∀ i, (i < 36 ∨ (36 ≤ i ∧ i < 36 + G) ∨ (42 ≤ i ∧ i < 42 + G) ∨ (48 ≤ i ∧ i < 48 + G) ∨ (54 ≤ i ∧ i < 54 + G) ∨ (60 ≤ i ∧ i < 60 + M) ∨ (65 ≤ i ∧ i < 69)) → m i = c i
theorem RN.put {G M : Nat} {c m : Nat → Int32} (h : RN G M c m) (k : Nat) (v : Int32) : RN G M (upd c k v) (upd m k v) := by
  intro i hi
  by_cases e : i = k
  · rw [upd_y e, upd_y e]
  · rw [upd_n e, upd_n e]
    exact h i hi
/-- what holds of the class's cells -/
def IV (G : Nat) (th c : Nat → Int32) : Prop := (∀ i, i < 36 → ∃ w, w ≤ 99 ∧ c i = nI w ∧ (w = 0 ∨ ∃ a b, a < b ∧ b < G ∧ ¬ th a = th b ∧ i = pl a b)) ∧ (∀ g, g < G → ∃ f, f ≤ 9 ∧ c (36 + g) = nI f) ∧ (∃ d, d ≤ 999 ∧ c 68 = nI d)
theorem rv_cong {R : R6} {ta mg c m : Nat → Int32} {G M g o : Nat} {w d : Int32} (hN : RN G M c m) (ha : ∀ g, g < G → mg (4 * g + 3) = ta g) (h : g < G ∧ o < G ∧ G ≤ 6) : rv R (tA mg) m g o w d = rv R ta c g o w d := by
  unfold rv tA
  rw [hN (36 + g) (by omega), hN (36 + o) (by omega), hN (42 + g) (by omega), hN (42 + o) (by omega), hN 66 (by omega), ha g h.1, ha o h.2.1]
/-! two meet -/
theorem cdx : ∀ a, a < 6 → ∀ b, b < 6 → nI 10 * mn (nI a) (nI b) + mx (nI a) (nI b) = nI (cd a b) := by decide +kernel
theorem cdx_c {a b : Nat} (h : a < 6 ∧ b < 6) : nI 10 * mn (nI a) (nI b) + mx (nI a) (nI b) = nI (cd a b) := cdx a h.1 b h.2
theorem sign_l {G M g o : Nat} {tn mm : Nat → Int32} (hM : M ≤ 5) (hg : g < 6) (ho : o < 6) (hn : ∀ k, k < M → mm (2 * k + 1) = tn k) : ∀ (j k n n' : Nat) (c m : Nat → Int32), k + j = M → j < n → j < n' → RN G M c m → ∃ c' m', f_X9_signLowest_2 (nI M) tn n c (nI g) (nI o) (nI k) = some c' ∧ f_X12_signNow_2 (nI M) mm n' m (nI g) (nI o) (nI k) = some m' ∧ RN G M c' m' ∧ (∀ i, i < 60 ∨ 65 < i → c' i = c i) ∧ (∀ i, i < 60 ∨ 65 < i → m' i = m i) := by
  intro j
  induction j with
  | zero =>
    intro k n n' c m hk h1 h2 hN
    obtain ⟨n, rfl⟩ : ∃ q, n = q + 1 := ⟨n - 1, by omega⟩
    obtain ⟨n', rfl⟩ : ∃ q, n' = q + 1 := ⟨n' - 1, by omega⟩
    refine ⟨c, m, ?_, ?_, hN, fun _ _ => rfl, fun _ _ => rfl⟩
    · simp (disch := omega) only [f_X9_signLowest_2, b_X9_signLowest_2, neg_nI, lit_nI, nI_add, pk_mul, pk_sub, nI_clamp, inB_nI, gd_true, bnd_def, nI_leI, nI_ltI, nI_eq, nI_mI, mI_nI, nle_T, nle_F, nlt_T, nlt_F, neq_T, neq_F, ↓reduceIte, Nat.add_zero, Nat.zero_add, Nat.mul_zero, Nat.reduceAdd, Nat.reduceMul, Nat.reduceSub, ob1_e, ob2_e, ob3_e, ob4_e, ob6_e]
    · simp (disch := omega) only [f_X12_signNow_2, b_X12_signNow_2, neg_nI, lit_nI, nI_add, pk_mul, pk_sub, nI_clamp, inB_nI, gd_true, bnd_def, nI_leI, nI_ltI, nI_eq, nI_mI, mI_nI, nle_T, nle_F, nlt_T, nlt_F, neq_T, neq_F, ↓reduceIte, Nat.add_zero, Nat.zero_add, Nat.mul_zero, Nat.reduceAdd, Nat.reduceMul, Nat.reduceSub, ob1_e, ob2_e, ob3_e, ob4_e, ob6_e]
  | succ j ih =>
    intro k n n' c m hk h1 h2 hN
    obtain ⟨n, rfl⟩ : ∃ q, n = q + 1 := ⟨n - 1, by omega⟩
    obtain ⟨n', rfl⟩ : ∃ q, n' = q + 1 := ⟨n' - 1, by omega⟩
    have hp := pl_lt ⟨hg, ho⟩
    have e1 : m (60 + k) = c (60 + k) := hN _ (by omega)
    have e2 : m (pl g o) = c (pl g o) := hN _ (by omega)
    by_cases hs : c (60 + k) = mI 1
    · by_cases hw : c (pl g o) < tn k
      · obtain ⟨c', m', r1, r2, r3⟩ := ih (k + 1) n n' c m (by omega) (by omega) (by omega) hN
        refine ⟨c', m', ?_, ?_, r3⟩
        · rw [← r1]
          simp (disch := omega) only [f_X9_signLowest_2, b_X9_signLowest_2, b_X9_signLowest_77, signers_c, warmthOf_c, hs, hw, neg_nI, lit_nI, nI_add, pk_mul, pk_sub, nI_clamp, inB_nI, gd_true, bnd_def, nI_leI, nI_ltI, nI_eq, nI_mI, mI_nI, nle_T, nle_F, nlt_T, nlt_F, neq_T, neq_F, ↓reduceIte, Nat.add_zero, Nat.zero_add, Nat.mul_zero, Nat.reduceAdd, Nat.reduceMul, Nat.reduceSub, ob1_e, ob2_e, ob3_e, ob4_e, ob6_e]
        · rw [← r2]
          simp (disch := omega) only [f_X12_signNow_2, b_X12_signNow_2, b_X12_signNow_74, pairAt_c, inB_pl, pl_clamp, e1, e2, hn, hs, hw, neg_nI, lit_nI, nI_add, pk_mul, pk_sub, nI_clamp, inB_nI, gd_true, bnd_def, nI_leI, nI_ltI, nI_eq, nI_mI, mI_nI, nle_T, nle_F, nlt_T, nlt_F, neq_T, neq_F, ↓reduceIte, Nat.add_zero, Nat.zero_add, Nat.mul_zero, Nat.reduceAdd, Nat.reduceMul, Nat.reduceSub, ob1_e, ob2_e, ob3_e, ob4_e, ob6_e]
      · refine ⟨upd (upd c (60 + k) (nI (cd g o))) 65 (upd c (60 + k) (nI (cd g o)) 65 ||| ((1 : Int32) <<< (nI k &&& 31))), upd (upd m (60 + k) (nI (cd g o))) 65 (upd c (60 + k) (nI (cd g o)) 65 ||| ((1 : Int32) <<< (nI k &&& 31))), ?_, ?_, (hN.put _ _).put _ _, ?_, ?_⟩
        · simp (disch := omega) only [f_X9_signLowest_2, b_X9_signLowest_2, b_X9_signLowest_77, signers_c, warmthOf_c, hs, hw, cdx_c, neg_nI, lit_nI, nI_add, pk_mul, pk_sub, nI_clamp, inB_nI, gd_true, bnd_def, nI_leI, nI_ltI, nI_eq, nI_mI, mI_nI, nle_T, nle_F, nlt_T, nlt_F, neq_T, neq_F, ↓reduceIte, Nat.add_zero, Nat.zero_add, Nat.mul_zero, Nat.reduceAdd, Nat.reduceMul, Nat.reduceSub, ob1_e, ob2_e, ob3_e, ob4_e, ob6_e]
        · have e3 : upd m (60 + k) (nI (cd g o)) 65 = upd c (60 + k) (nI (cd g o)) 65 := (hN.put _ _) 65 (by omega)
          simp (disch := omega) only [f_X12_signNow_2, b_X12_signNow_2, b_X12_signNow_74, pairAt_c, codeOf_c, inB_pl, pl_clamp, e1, e2, e3, hn, hs, hw, neg_nI, lit_nI, nI_add, pk_mul, pk_sub, nI_clamp, inB_nI, gd_true, bnd_def, nI_leI, nI_ltI, nI_eq, nI_mI, mI_nI, nle_T, nle_F, nlt_T, nlt_F, neq_T, neq_F, ↓reduceIte, Nat.add_zero, Nat.zero_add, Nat.mul_zero, Nat.reduceAdd, Nat.reduceMul, Nat.reduceSub, ob1_e, ob2_e, ob3_e, ob4_e, ob6_e]
        · intro i hi
          rw [upd_n (by omega), upd_n (by omega)]
        · intro i hi
          rw [upd_n (by omega), upd_n (by omega)]
    · obtain ⟨c', m', r1, r2, r3⟩ := ih (k + 1) n n' c m (by omega) (by omega) (by omega) hN
      refine ⟨c', m', ?_, ?_, r3⟩
      · rw [← r1]
        simp (disch := omega) only [f_X9_signLowest_2, b_X9_signLowest_2, b_X9_signLowest_77, signers_c, warmthOf_c, hs, neg_nI, lit_nI, nI_add, pk_mul, pk_sub, nI_clamp, inB_nI, gd_true, bnd_def, nI_leI, nI_ltI, nI_eq, nI_mI, mI_nI, nle_T, nle_F, nlt_T, nlt_F, neq_T, neq_F, ↓reduceIte, Nat.add_zero, Nat.zero_add, Nat.mul_zero, Nat.reduceAdd, Nat.reduceMul, Nat.reduceSub, ob1_e, ob2_e, ob3_e, ob4_e, ob6_e]
      · rw [← r2]
        simp (disch := omega) only [f_X12_signNow_2, b_X12_signNow_2, b_X12_signNow_74, pairAt_c, inB_pl, pl_clamp, e1, e2, hs, neg_nI, lit_nI, nI_add, pk_mul, pk_sub, nI_clamp, inB_nI, gd_true, bnd_def, nI_leI, nI_ltI, nI_eq, nI_mI, mI_nI, nle_T, nle_F, nlt_T, nlt_F, neq_T, neq_F, ↓reduceIte, Nat.add_zero, Nat.zero_add, Nat.mul_zero, Nat.reduceAdd, Nat.reduceMul, Nat.reduceSub, ob1_e, ob2_e, ob3_e, ob4_e, ob6_e]
end
section
theorem pl_inj (a : Nat) (ha : a < 6) (b : Nat) (hb : b < 6) (hab : a < b) (x : Nat) (hx : x < 6) (y : Nat) (hy : y < 6) (hxy : x < y) (e : pl a b = pl x y) : a = x ∧ b = y := by
  unfold pl at e
  rw [if_neg (by omega), if_neg (by omega)] at e
  omega
theorem IV.cong {G : Nat} {th c c' : Nat → Int32} (hG : G ≤ 6) (h : IV G th c) (hc : ∀ i, i < 48 ∨ i = 68 → c' i = c i) : IV G th c' := by
  obtain ⟨h1, h2, h3⟩ := h
  refine ⟨fun i hi => ?_, fun g hg => ?_, ?_⟩
  · rw [hc i (by omega)]
    exact h1 i hi
  · rw [hc (36 + g) (by omega)]
    exact h2 g hg
  · rw [hc 68 (by omega)]
    exact h3
theorem IV.warm {G : Nat} {th c : Nat → Int32} (hG : G ≤ 6) (h : IV G th c) {g o : Nat} (hg : g < G) (ho : o < G) (hne : ¬ th g = th o) (x : Int32) : IV G th (upd c (pl g o) (hd x)) := by
  obtain ⟨h1, h2, h3⟩ := h
  have hp := pl_lt (a := g) (b := o) ⟨by omega, by omega⟩
  refine ⟨fun i hi => ?_, fun q hq => ?_, ?_⟩
  · by_cases e : i = pl g o
    · rw [upd_y e]
      obtain ⟨w, hw, e2⟩ := hd_r x
      refine ⟨w, hw, e2, Or.inr ?_⟩
      rcases Nat.lt_trichotomy g o with l | l | l
      · exact ⟨g, o, l, ho, hne, e⟩
      · exact absurd (by rw [l]) hne
      · exact ⟨o, g, l, hg, fun q => hne q.symm, by rw [pl_comm]; exact e⟩
    · rw [upd_n e]
      exact h1 i hi
  · rw [upd_n (by omega)]
    exact h2 q hq
  · rw [upd_n (by omega)]
    exact h3
theorem day0 {d : Nat} (h : d ≤ 999) : mn 999 (nI d + nI 0) = nI d := by
  show (if nI d + nI 0 < nI 999 then nI d + nI 0 else nI 999) = nI d
  rw [nI_add, Nat.add_zero]
  by_cases e : d = 999
  · rw [e]
    rfl
  · rw [if_pos (nI_lt (by omega) (by omega))]
def mt4 (c : Nat → Int32) (g o : Nat) (w k : Int32) : Nat → Int32 := upd (upd (upd (upd (upd c (pl g o) w) (48 + g) k) (48 + o) k) (54 + g) (nI o)) (54 + o) (nI g)
section MT
variable {R : R6} {lh : Int32} {ll l0 l1 l2 l3 : Nat → Int32} {mh : Int32} {mc mv mk mt ms mu : Nat → Int32}
theorem meet_l (hX : RiseX R lh ll l0 l1 l2 l3) (hY : RiseY R mh mc mv mk mt ms mu) {G M : Nat} {th ta tn mg mm : Nat → Int32} (hG : G ≤ 6) (hM : M ≤ 5) (ha : ∀ g, g < G → mg (4 * g + 3) = ta g) (hn : ∀ k, k < M → mm (2 * k + 1) = tn k) {c m : Nat → Int32} (hN : RN G M c m) (hI : IV G th c) {g o : Nat} (hg : g < G) (ho : o < G) (hne : ¬ th g = th o) (lt st lt2 st2 : Nat → Int32) : ∃ lt' st' c' lt2' st2' m', f_X9_meet (nI M) ta tn lh ll l0 l1 l2 l3 lt st c (nI g) (nI o) = some (lt', st', c') ∧ f_X12_meetNow (nI M) mh mc mv mk mt ms mu mg mm lt2 st2 m (nI g) (nI o) = some (lt2', st2', m') ∧ RN G M c' m' ∧ IV G th c' ∧ (∀ i, (36 ≤ i ∧ i < 48) ∨ 66 ≤ i → c' i = c i) ∧ (∀ i, 66 ≤ i → m' i = m i) := by
  have hp := pl_lt (a := g) (b := o) ⟨by omega, by omega⟩
  obtain ⟨d, hd9, ed⟩ := hI.2.2
  obtain ⟨lt', st', e1⟩ := warmer_c hX (ta := ta) (c := c) (lt := lt) (st := st) (g := g) (o := o) (w := c (pl g o)) (k := nI 0) ⟨by omega, by omega⟩
  obtain ⟨lt2', st2', e2⟩ := riseOfY_c hY (mg := mg) (m := m) (lt := lt2) (st := st2) (g := g) (o := o) ⟨by omega, by omega⟩
  rw [ed, day0 hd9, ← ed] at e1
  rw [rv_cong hN ha ⟨hg, ho, hG⟩, hN (pl g o) (by omega), hN 68 (by omega)] at e2
  have em : m (pl g o) = c (pl g o) := hN _ (by omega)
  have e48 : m (48 + g) = c (48 + g) := hN _ (by omega)
  have e49 : m (48 + o) = c (48 + o) := hN _ (by omega)
  obtain ⟨c', m', s1, s2, s3, s4, s5⟩ := sign_l (G := G) (M := M) (g := g) (o := o) (tn := tn) (mm := mm) hM (by omega) (by omega) hn M 0 fu fu (mt4 c g o (hd (c (pl g o) + rv R ta c g o (c (pl g o)) (c 68))) (c (48 + g) ||| c (48 + o))) (mt4 m g o (hd (c (pl g o) + rv R ta c g o (c (pl g o)) (c 68))) (c (48 + g) ||| c (48 + o))) (by omega) (by have := fu_le; omega) (by have := fu_le; omega) (((((hN.put _ _).put _ _).put _ _).put _ _).put _ _)
  refine ⟨lt', st', c', lt2', st2', m', ?_, ?_, s3, ?_, ?_, ?_⟩
  · have q : f_X9_signLowest (nI M) tn (mt4 c g o (hd (c (pl g o) + rv R ta c g o (c (pl g o)) (c 68))) (c (48 + g) ||| c (48 + o))) (nI g) (nI o) = some c' := s1
    unfold mt4 at q
    simp (disch := omega) only [f_X9_meet, b_X9_meet_0, placeOf_c, warmthOf_c, e1, knows_c, inB_pl, pl_clamp, upd_n, q, neg_nI, lit_nI, nI_add, pk_mul, pk_sub, nI_clamp, inB_nI, gd_true, bnd_def, nI_leI, nI_ltI, nI_eq, nI_mI, mI_nI, nle_T, nle_F, nlt_T, nlt_F, neq_T, neq_F, ↓reduceIte, Nat.add_zero, Nat.zero_add, Nat.mul_zero, Nat.reduceAdd, Nat.reduceMul, Nat.reduceSub, ob1_e, ob2_e, ob3_e, ob4_e, ob6_e]
  · have q : f_X12_signNow (nI M) mm (mt4 m g o (hd (c (pl g o) + rv R ta c g o (c (pl g o)) (c 68))) (c (48 + g) ||| c (48 + o))) (nI g) (nI o) = some m' := s2
    unfold mt4 at q
    simp (disch := omega) only [f_X12_meetNow, b_X12_meetNow_0, pairAt_c, e2, em, e48, e49, held_c, inB_pl, pl_clamp, upd_n, q, neg_nI, lit_nI, nI_add, pk_mul, pk_sub, nI_clamp, inB_nI, gd_true, bnd_def, nI_leI, nI_ltI, nI_eq, nI_mI, mI_nI, nle_T, nle_F, nlt_T, nlt_F, neq_T, neq_F, ↓reduceIte, Nat.add_zero, Nat.zero_add, Nat.mul_zero, Nat.reduceAdd, Nat.reduceMul, Nat.reduceSub, ob1_e, ob2_e, ob3_e, ob4_e, ob6_e]
  · refine (hI.warm hG hg ho hne (c (pl g o) + rv R ta c g o (c (pl g o)) (c 68))).cong hG fun i hi => ?_
    rw [s4 i (by omega)]
    unfold mt4
    rw [upd_n (by omega), upd_n (by omega), upd_n (by omega), upd_n (by omega)]
  · intro i hi
    rw [s4 i (by omega)]
    unfold mt4
    rw [upd_n (by omega), upd_n (by omega), upd_n (by omega), upd_n (by omega), upd_n (by omega)]
  · intro i hi
    rw [s5 i (by omega)]
    unfold mt4
    rw [upd_n (by omega), upd_n (by omega), upd_n (by omega), upd_n (by omega), upd_n (by omega)]
end MT
end
section
/-! the log, the acts kept, the state with them -/
def RLog (bk : Nat → Int32) (d : Nat) (m : Nat → Int32) : Prop := m 69 = nI (min 60 d) ∧ ∀ r, r < min 60 d → ∀ w, w < 3 → m (70 + (3 * r + w)) = bk ((d - min 60 d + r) % 128 * 3 + w)
def RC (G M : Nat) (th bk : Nat → Int32) (d : Nat) (c m : Nat → Int32) : Prop := RN G M c m ∧ IV G th c ∧ (c 68 = nI d ∧ d ≤ 999) ∧ RLog bk d m
def sh (f : Nat → Int32) (k : Nat) : Nat → Int32 := fun i => f (k + i)
def RA (G M : Nat) (th bk : Nat → Int32) (s nx : Nat) (rows kept : Nat → Int32) (dd : Nat → Nat) : Prop := s ≤ 40 ∧ nx < 40 ∧ ∀ j, j < s → RC G M th bk (dd j) (sh rows (69 * ((nx + 40 - s + j) % 40))) (sh kept (250 * j)) ∧ dd j ≤ dd (j + 1) ∧ dd (j + 1) ≤ dd j + 1
theorem RC.cong {G M : Nat} {th bk : Nat → Int32} {d : Nat} {c m c' m' : Nat → Int32} (hG : G ≤ 6) (hM : M ≤ 5) (h : RC G M th bk d c m) (hc : ∀ i, i < 69 → c' i = c i) (hm : ∀ i, i < 250 → m' i = m i) : RC G M th bk d c' m' := by
  obtain ⟨h1, h2, h3, h4, h5⟩ := h
  refine ⟨fun i hi => ?_, h2.cong hG (fun i hi => hc i (by omega)), ?_, ?_, fun r hr w hw => ?_⟩
  · rw [hc i (by omega), hm i (by omega)]
    exact h1 i hi
  · rw [hc 68 (by omega)]
    exact h3
  · rw [hm 69 (by omega)]
    exact h4
  · rw [hm _ (by omega)]
    exact h5 r hr w hw
theorem spB_c {i n N : Nat} (h : i + n ≤ N ∧ N < 2 ^ 31) : spB (nI i) (nI n) N = true := by
  unfold spB
  rw [decide_eq_true_eq, nI_clamp (by omega), nI_clamp (by omega)]
  exact ⟨nI_pos (by omega), nI_pos (by omega), h.1⟩
theorem mn40 {s : Nat} (h : s ≤ 40) : mn (nI 40) (nI (s + 1)) = nI (min 40 (s + 1)) := by
  show (if nI (s + 1) < nI 40 then nI (s + 1) else nI 40) = _
  by_cases e : s + 1 < 40
  · rw [if_pos (nI_lt e (by omega)), Nat.min_eq_right (by omega)]
  · rw [if_neg (nI_nlt (by omega) (by omega)), Nat.min_eq_left (by omega)]
theorem keepX_c {c rows : Nat → Int32} {s nx : Nat} (hs : s ≤ 40) (hn : nx < 40) : f_X0_keep c (nI s) (nI nx) rows = some (nI (min 40 (s + 1)), nI ((nx + 1) % 40), va_cpy c rows 0 (nx * 69) 69) := by
  have e1 : rem (nI (nx + 1)) (nI 40) = nI ((nx + 1) % 40) := pk_rem (by omega) (by omega) (by omega)
  simp (disch := omega) only [f_X0_keep, b_X0_keep_0, spB_c, mn40 hs, e1, neg_nI, lit_nI, nI_add, pk_mul, pk_sub, nI_clamp, inB_nI, gd_true, bnd_def, nI_leI, nI_ltI, nI_eq, nI_mI, mI_nI, nle_T, nle_F, nlt_T, nlt_F, neq_T, neq_F, ↓reduceIte, Nat.add_zero, Nat.zero_add, Nat.mul_zero, Nat.reduceAdd, Nat.reduceMul, Nat.reduceSub, ob1_e, ob2_e, ob3_e, ob4_e, ob6_e]
theorem keepY_54 {m : Nat → Int32} {s : Nat} (hs : s < 40) : ∀ (j k n : Nat) (kept : Nat → Int32), k + j = 250 → j < n → ∃ kept', f_X12_keep_54 m n (nI s) kept (nI k) = some (nI (s + 1), kept') ∧ (∀ i, k ≤ i → i < 250 → kept' (250 * s + i) = m i) ∧ (∀ i, i < 250 * s + k → kept' i = kept i) := by
  intro j
  induction j with
  | zero =>
    intro k n kept hk h1
    obtain ⟨n, rfl⟩ : ∃ q, n = q + 1 := ⟨n - 1, by omega⟩
    refine ⟨kept, ?_, fun i h2 h3 => by omega, fun _ _ => rfl⟩
    simp (disch := omega) only [f_X12_keep_54, b_X12_keep_54, neg_nI, lit_nI, nI_add, pk_mul, pk_sub, nI_clamp, inB_nI, gd_true, bnd_def, nI_leI, nI_ltI, nI_eq, nI_mI, mI_nI, nle_T, nle_F, nlt_T, nlt_F, neq_T, neq_F, ↓reduceIte, Nat.add_zero, Nat.zero_add, Nat.mul_zero, Nat.reduceAdd, Nat.reduceMul, Nat.reduceSub, ob1_e, ob2_e, ob3_e, ob4_e, ob6_e]
  | succ j ih =>
    intro k n kept hk h1
    obtain ⟨n, rfl⟩ : ∃ q, n = q + 1 := ⟨n - 1, by omega⟩
    obtain ⟨kept', r1, r2, r3⟩ := ih (k + 1) n (upd kept (250 * s + k) (m k)) (by omega) (by omega)
    refine ⟨kept', ?_, fun i h2 h3 => ?_, fun i hi => ?_⟩
    · rw [← r1]
      simp (disch := omega) only [f_X12_keep_54, b_X12_keep_54, neg_nI, lit_nI, nI_add, pk_mul, pk_sub, nI_clamp, inB_nI, gd_true, bnd_def, nI_leI, nI_ltI, nI_eq, nI_mI, mI_nI, nle_T, nle_F, nlt_T, nlt_F, neq_T, neq_F, ↓reduceIte, Nat.add_zero, Nat.zero_add, Nat.mul_zero, Nat.reduceAdd, Nat.reduceMul, Nat.reduceSub, ob1_e, ob2_e, ob3_e, ob4_e, ob6_e]
    · by_cases e : i = k
      · rw [e, r3 _ (by omega), upd_y rfl]
      · exact r2 i (by omega) h3
    · rw [r3 i (by omega), upd_n (by omega)]
theorem keepY_13 {m : Nat → Int32} : ∀ (j k n : Nat) (kept : Nat → Int32), k + j = 10000 → 250 ≤ k → j < n → ∃ kept', f_X12_keep_13 m n (nI 40) kept (nI k) = some (nI 40, kept') ∧ (∀ i, i < 250 → kept' (250 * 39 + i) = m i) ∧ (∀ i, k ≤ i → i < 10000 → kept' (i - 250) = kept i) ∧ (∀ i, i + 250 < k → kept' i = kept i) := by
  intro j
  induction j with
  | zero =>
    intro k n kept hk hk2 h1
    obtain ⟨n, rfl⟩ : ∃ q, n = q + 1 := ⟨n - 1, by omega⟩
    obtain ⟨kept', r1, r2, r3⟩ := keepY_54 (m := m) (s := 39) (by omega) 250 0 fu kept (by omega) (by have := fu_le; omega)
    have r1' : f_X12_keep_54 m fu (nI 39) kept (nI 0) = some (nI 40, kept') := r1
    refine ⟨kept', ?_, fun i hi => r2 i (by omega) hi, fun i h2 h3 => by omega, fun i hi => r3 i (by omega)⟩
    rw [← r1']
    simp (disch := omega) only [f_X12_keep_13, b_X12_keep_13, b_X12_keep_52, neg_nI, lit_nI, nI_add, pk_mul, pk_sub, nI_clamp, inB_nI, gd_true, bnd_def, nI_leI, nI_ltI, nI_eq, nI_mI, mI_nI, nle_T, nle_F, nlt_T, nlt_F, neq_T, neq_F, ↓reduceIte, Nat.add_zero, Nat.zero_add, Nat.mul_zero, Nat.reduceAdd, Nat.reduceMul, Nat.reduceSub, ob1_e, ob2_e, ob3_e, ob4_e, ob6_e]
  | succ j ih =>
    intro k n kept hk hk2 h1
    obtain ⟨n, rfl⟩ : ∃ q, n = q + 1 := ⟨n - 1, by omega⟩
    obtain ⟨kept', r1, r2, r3, r4⟩ := ih (k + 1) n (upd kept (k - 250) (kept k)) (by omega) (by omega) (by omega)
    refine ⟨kept', ?_, r2, fun i h2 h3 => ?_, fun i hi => ?_⟩
    · rw [← r1]
      simp (disch := omega) only [f_X12_keep_13, b_X12_keep_13, neg_nI, lit_nI, nI_add, pk_mul, pk_sub, nI_clamp, inB_nI, gd_true, bnd_def, nI_leI, nI_ltI, nI_eq, nI_mI, mI_nI, nle_T, nle_F, nlt_T, nlt_F, neq_T, neq_F, ↓reduceIte, Nat.add_zero, Nat.zero_add, Nat.mul_zero, Nat.reduceAdd, Nat.reduceMul, Nat.reduceSub, ob1_e, ob2_e, ob3_e, ob4_e, ob6_e]
    · by_cases e : i = k
      · rw [e, r4 _ (by omega), upd_y rfl]
      · rw [r3 i (by omega) h3, upd_n (by omega)]
    · rw [r4 i (by omega), upd_n (by omega)]
/-- an act is kept by both -/
theorem keep_l {G M : Nat} {th bk : Nat → Int32} {s nx d : Nat} {rows kept c m : Nat → Int32} {dd : Nat → Nat} (hG : G ≤ 6) (hM : M ≤ 5) (hA : RA G M th bk s nx rows kept dd) (hd : dd s = d) (hC : RC G M th bk d c m) : ∃ s' nx' rows' kept' dd', f_X0_keep c (nI s) (nI nx) rows = some (nI s', nI nx', rows') ∧ f_X12_keep m (nI s) kept = some (nI s', kept') ∧ RA G M th bk s' nx' rows' kept' dd' ∧ dd' s' = d ∧ dd' (s' - 1) = d ∧ 0 < s' := by
  obtain ⟨hs, hn, hr⟩ := hA
  have inn : ∀ i, i < 69 → va_cpy c rows 0 (nx * 69) 69 (69 * nx + i) = c i := by
    intro i hi
    rw [pk_cpy_in (by omega) (by omega)]
    congr 1
    omega
  have out : ∀ q i, i < 69 → q < 40 → q ≠ nx → va_cpy c rows 0 (nx * 69) 69 (69 * q + i) = rows (69 * q + i) := by
    intro q i hi hq hne
    exact pk_cpy_out (by omega)
  by_cases e40 : s = 40
  · subst e40
    obtain ⟨kept', r1, r2, r3, r4⟩ := keepY_13 (m := m) 9750 250 fu kept (by omega) (by omega) (by have := fu_le; omega)
    refine ⟨40, (nx + 1) % 40, _, kept', fun j => if j = 40 then d else dd (j + 1), keepX_c hs hn, ?_, ⟨by omega, by omega, fun j hj => ?_⟩, by rfl, ?_, by omega⟩
    · rw [← r1]
      simp (disch := omega) only [f_X12_keep, b_X12_keep_0, neg_nI, lit_nI, nI_add, pk_mul, pk_sub, nI_clamp, inB_nI, gd_true, bnd_def, nI_leI, nI_ltI, nI_eq, nI_mI, mI_nI, nle_T, nle_F, nlt_T, nlt_F, neq_T, neq_F, ↓reduceIte, Nat.add_zero, Nat.zero_add, Nat.mul_zero, Nat.reduceAdd, Nat.reduceMul, Nat.reduceSub, ob1_e, ob2_e, ob3_e, ob4_e, ob6_e]
    · by_cases e39 : j = 39
      · subst e39
        refine ⟨?_, ?_⟩
        · show RC G M th bk (dd 40) _ _
          rw [hd]
          refine hC.cong hG hM (fun i hi => ?_) (fun i hi => ?_)
          · show va_cpy c rows 0 (nx * 69) 69 (69 * (((nx + 1) % 40 + 40 - 40 + 39) % 40) + i) = c i
            rw [show ((nx + 1) % 40 + 40 - 40 + 39) % 40 = nx by omega]
            exact inn i hi
          · exact r2 i hi
        · show dd 40 ≤ d ∧ d ≤ dd 40 + 1
          omega
      · obtain ⟨q1, q2⟩ := hr (j + 1) (by omega)
        refine ⟨?_, ?_⟩
        · show RC G M th bk (if j = 40 then d else dd (j + 1)) _ _
          rw [if_neg (by omega)]
          refine q1.cong hG hM (fun i hi => ?_) (fun i hi => ?_)
          · show va_cpy c rows 0 (nx * 69) 69 (69 * (((nx + 1) % 40 + 40 - 40 + j) % 40) + i) = rows (69 * ((nx + 40 - 40 + (j + 1)) % 40) + i)
            rw [show ((nx + 1) % 40 + 40 - 40 + j) % 40 = (nx + 40 - 40 + (j + 1)) % 40 by omega]
            exact out _ i hi (by omega) (by omega)
          · show kept' (250 * j + i) = kept (250 * (j + 1) + i)
            have q9 := r3 (250 * (j + 1) + i) (by omega) (by omega)
            rw [show 250 * (j + 1) + i - 250 = 250 * j + i by omega] at q9
            exact q9
        · show (if j = 40 then d else dd (j + 1)) ≤ (if j + 1 = 40 then d else dd (j + 1 + 1)) ∧ (if j + 1 = 40 then d else dd (j + 1 + 1)) ≤ (if j = 40 then d else dd (j + 1)) + 1
          rw [if_neg (by omega), if_neg (by omega)]
          exact q2
    · show (if 39 = 40 then d else dd (39 + 1)) = d
      rw [if_neg (by omega)]
      exact hd
  · obtain ⟨kept', r1, r2, r3⟩ := keepY_54 (m := m) (s := s) (by omega) 250 0 fu kept (by omega) (by have := fu_le; omega)
    refine ⟨s + 1, (nx + 1) % 40, va_cpy c rows 0 (nx * 69) 69, kept', fun j => if j = s + 1 then d else dd j, ?_, ?_, ⟨by omega, by omega, fun j hj => ?_⟩, ?_, ?_, by omega⟩
    · rw [keepX_c hs hn, Nat.min_eq_right (by omega)]
    · rw [← r1]
      simp (disch := omega) only [f_X12_keep, b_X12_keep_0, b_X12_keep_52, neg_nI, lit_nI, nI_add, pk_mul, pk_sub, nI_clamp, inB_nI, gd_true, bnd_def, nI_leI, nI_ltI, nI_eq, nI_mI, mI_nI, nle_T, nle_F, nlt_T, nlt_F, neq_T, neq_F, ↓reduceIte, Nat.add_zero, Nat.zero_add, Nat.mul_zero, Nat.reduceAdd, Nat.reduceMul, Nat.reduceSub, ob1_e, ob2_e, ob3_e, ob4_e, ob6_e]
    · by_cases ej : j = s
      · subst ej
        refine ⟨?_, ?_⟩
        · show RC G M th bk (if j = j + 1 then d else dd j) _ _
          rw [if_neg (by omega), hd]
          refine hC.cong hG hM (fun i hi => ?_) (fun i hi => ?_)
          · show va_cpy c rows 0 (nx * 69) 69 (69 * (((nx + 1) % 40 + 40 - (j + 1) + j) % 40) + i) = c i
            rw [show ((nx + 1) % 40 + 40 - (j + 1) + j) % 40 = nx by omega]
            exact inn i hi
          · exact r2 i (by omega) hi
        · show (if j = j + 1 then d else dd j) ≤ (if j + 1 = j + 1 then d else dd (j + 1)) ∧ (if j + 1 = j + 1 then d else dd (j + 1)) ≤ (if j = j + 1 then d else dd j) + 1
          rw [if_neg (by omega), if_pos rfl]
          omega
      · obtain ⟨q1, q2⟩ := hr j (by omega)
        refine ⟨?_, ?_⟩
        · show RC G M th bk (if j = s + 1 then d else dd j) _ _
          rw [if_neg (by omega)]
          refine q1.cong hG hM (fun i hi => ?_) (fun i hi => ?_)
          · show va_cpy c rows 0 (nx * 69) 69 (69 * (((nx + 1) % 40 + 40 - (s + 1) + j) % 40) + i) = rows (69 * ((nx + 40 - s + j) % 40) + i)
            rw [show ((nx + 1) % 40 + 40 - (s + 1) + j) % 40 = (nx + 40 - s + j) % 40 by omega]
            exact out _ i hi (by omega) (by omega)
          · exact r3 _ (by omega)
        · show (if j = s + 1 then d else dd j) ≤ (if j + 1 = s + 1 then d else dd (j + 1)) ∧ (if j + 1 = s + 1 then d else dd (j + 1)) ≤ (if j = s + 1 then d else dd j) + 1
          rw [if_neg (by omega), if_neg (by omega)]
          exact q2
    · show (if s + 1 = s + 1 then d else dd (s + 1)) = d
      rw [if_pos rfl]
    · show (if s + 1 - 1 = s + 1 then d else dd (s + 1 - 1)) = d
      rw [if_neg (by omega)]
      exact hd
end
section
/-! a day goes by -/
theorem hd_c {w : Nat} (h : w ≤ 99) : hd (nI w) = nI w := by
  show (if nI 0 < (if nI w < nI 99 then nI w else nI 99) then (if nI w < nI 99 then nI w else nI 99) else nI 0) = nI w
  by_cases e : w = 99
  · rw [e]
    decide +kernel
  · by_cases e0 : w = 0
    · rw [e0]
      decide +kernel
    · rw [if_pos (nI_lt (a := w) (b := 99) (by omega) (by omega)), if_pos (nI_lt (a := 0) (b := w) (by omega) (by omega))]
theorem hd_m {w : Nat} (h : w ≤ 99) : hd (nI w - nI 1) = nI (w - 1) := by
  by_cases e0 : w = 0
  · rw [e0]
    decide +kernel
  · rw [pk_sub (by omega), hd_c (by omega)]
theorem le0_c {w : Nat} (h : w ≤ 99) : (nI w ≤ nI 0) = (w ≤ 0) := propext (nI_leI (by omega) (by omega))
theorem cool_in {G M a : Nat} {th mg : Nat → Int32} (hG : G ≤ 6) (ha : a < G) (hh : ∀ g, g < G → mg (4 * g) = th g) {k k' : (Nat → Int32) → Int32 → Option (Nat → Int32)} : ∀ (j b n n' : Nat) (c m : Nat → Int32), b + j = G → a < b → j < n → j < n' → RN G M c m → IV G th c → ∃ c' m', f_X9_cool_17 (nI G) k n c (nI a) (nI b) = k c' (nI (a + 1)) ∧ f_X12_cool_14 (nI G) mg k' n' m (nI a) (nI b) = k' m' (nI (a + 1)) ∧ RN G M c' m' ∧ IV G th c' ∧ (∀ i, 36 ≤ i → c' i = c i) ∧ (∀ i, 36 ≤ i → m' i = m i) := by
  intro j
  induction j with
  | zero =>
    intro b n n' c m hb hab h1 h2 hN hI
    obtain ⟨n, rfl⟩ : ∃ q, n = q + 1 := ⟨n - 1, by omega⟩
    obtain ⟨n', rfl⟩ : ∃ q, n' = q + 1 := ⟨n' - 1, by omega⟩
    refine ⟨c, m, ?_, ?_, hN, hI, fun _ _ => rfl, fun _ _ => rfl⟩
    · simp (disch := omega) only [f_X9_cool_17, b_X9_cool_17, neg_nI, lit_nI, nI_add, pk_mul, pk_sub, nI_clamp, inB_nI, gd_true, bnd_def, nI_leI, nI_ltI, nI_eq, nI_mI, mI_nI, nle_T, nle_F, nlt_T, nlt_F, neq_T, neq_F, ↓reduceIte, Nat.add_zero, Nat.zero_add, Nat.mul_zero, Nat.reduceAdd, Nat.reduceMul, Nat.reduceSub, ob1_e, ob2_e, ob3_e, ob4_e, ob6_e]
    · simp (disch := omega) only [f_X12_cool_14, b_X12_cool_14, neg_nI, lit_nI, nI_add, pk_mul, pk_sub, nI_clamp, inB_nI, gd_true, bnd_def, nI_leI, nI_ltI, nI_eq, nI_mI, mI_nI, nle_T, nle_F, nlt_T, nlt_F, neq_T, neq_F, ↓reduceIte, Nat.add_zero, Nat.zero_add, Nat.mul_zero, Nat.reduceAdd, Nat.reduceMul, Nat.reduceSub, ob1_e, ob2_e, ob3_e, ob4_e, ob6_e]
  | succ j ih =>
    intro b n n' c m hb hab h1 h2 hN hI
    obtain ⟨n, rfl⟩ : ∃ q, n = q + 1 := ⟨n - 1, by omega⟩
    obtain ⟨n', rfl⟩ : ∃ q, n' = q + 1 := ⟨n' - 1, by omega⟩
    have hp := pl_lt (a := a) (b := b) ⟨by omega, by omega⟩
    have e1 : m (54 + a) = c (54 + a) := hN _ (by omega)
    have e2 : m (pl a b) = c (pl a b) := hN _ (by omega)
    have g1 := hh a ha
    have g2 := hh b (by omega)
    obtain ⟨w, hw, ew, hz⟩ := hI.1 (pl a b) hp
    by_cases hs : c (54 + a) = nI b
    · obtain ⟨c', m', r1, r2, r3⟩ := ih (b + 1) n n' c m (by omega) (by omega) (by omega) (by omega) hN hI
      refine ⟨c', m', ?_, ?_, r3⟩
      · rw [← r1]
        simp (disch := omega) only [f_X9_cool_17, b_X9_cool_17, b_X9_cool_66, placeOf_c, hs, neg_nI, lit_nI, nI_add, pk_mul, pk_sub, nI_clamp, inB_nI, gd_true, bnd_def, nI_leI, nI_ltI, nI_eq, nI_mI, mI_nI, nle_T, nle_F, nlt_T, nlt_F, neq_T, neq_F, ↓reduceIte, Nat.add_zero, Nat.zero_add, Nat.mul_zero, Nat.reduceAdd, Nat.reduceMul, Nat.reduceSub, ob1_e, ob2_e, ob3_e, ob4_e, ob6_e]
      · rw [← r2]
        by_cases ht : th a = th b <;> simp (disch := omega) only [f_X12_cool_14, b_X12_cool_14, b_X12_cool_69, areTwo_c, g1, g2, ht, e1, hs, neg_nI, lit_nI, nI_add, pk_mul, pk_sub, nI_clamp, inB_nI, gd_true, bnd_def, nI_leI, nI_ltI, nI_eq, nI_mI, mI_nI, nle_T, nle_F, nlt_T, nlt_F, neq_T, neq_F, ↓reduceIte, Nat.add_zero, Nat.zero_add, Nat.mul_zero, Nat.reduceAdd, Nat.reduceMul, Nat.reduceSub, ob1_e, ob2_e, ob3_e, ob4_e, ob6_e]
    · by_cases ht : th a = th b
      · have hw0 : w = 0 := by
          rcases hz with hz | ⟨x, y, hxy, hy, hn, e⟩
          · exact hz
          · obtain ⟨q1, q2⟩ := pl_inj a (by omega) b (by omega) hab x (by omega) y (by omega) hxy e
            rw [← q1, ← q2] at hn
            exact absurd ht hn
        obtain ⟨c', m', r1, r2, r3⟩ := ih (b + 1) n n' c m (by omega) (by omega) (by omega) (by omega) hN hI
        refine ⟨c', m', ?_, ?_, r3⟩
        · rw [← r1]
          simp (disch := omega) only [f_X9_cool_17, b_X9_cool_17, b_X9_cool_66, placeOf_c, inB_pl, pl_clamp, hs, ew, hw0, neg_nI, lit_nI, nI_add, pk_mul, pk_sub, nI_clamp, inB_nI, gd_true, bnd_def, nI_leI, nI_ltI, nI_eq, nI_mI, mI_nI, nle_T, nle_F, nlt_T, nlt_F, neq_T, neq_F, ↓reduceIte, Nat.add_zero, Nat.zero_add, Nat.mul_zero, Nat.reduceAdd, Nat.reduceMul, Nat.reduceSub, ob1_e, ob2_e, ob3_e, ob4_e, ob6_e]
        · rw [← r2]
          simp (disch := omega) only [f_X12_cool_14, b_X12_cool_14, b_X12_cool_69, areTwo_c, g1, g2, ht, neg_nI, lit_nI, nI_add, pk_mul, pk_sub, nI_clamp, inB_nI, gd_true, bnd_def, nI_leI, nI_ltI, nI_eq, nI_mI, mI_nI, nle_T, nle_F, nlt_T, nlt_F, neq_T, neq_F, ↓reduceIte, Nat.add_zero, Nat.zero_add, Nat.mul_zero, Nat.reduceAdd, Nat.reduceMul, Nat.reduceSub, ob1_e, ob2_e, ob3_e, ob4_e, ob6_e]
      · by_cases hw0 : w = 0
        · have hN2 : RN G M c (upd m (pl a b) (nI 0)) := by
            intro i hi
            by_cases e : i = pl a b
            · rw [upd_y e, e, ew, hw0]
            · rw [upd_n e]
              exact hN i hi
          obtain ⟨c', m', r1, r2, r3, r4, r5, r6⟩ := ih (b + 1) n n' c (upd m (pl a b) (nI 0)) (by omega) (by omega) (by omega) (by omega) hN2 hI
          refine ⟨c', m', ?_, ?_, r3, r4, r5, fun i hi => by rw [r6 i hi, upd_n (by omega)]⟩
          · rw [← r1]
            simp (disch := omega) only [f_X9_cool_17, b_X9_cool_17, b_X9_cool_66, placeOf_c, inB_pl, pl_clamp, hs, ew, hw0, neg_nI, lit_nI, nI_add, pk_mul, pk_sub, nI_clamp, inB_nI, gd_true, bnd_def, nI_leI, nI_ltI, nI_eq, nI_mI, mI_nI, nle_T, nle_F, nlt_T, nlt_F, neq_T, neq_F, ↓reduceIte, Nat.add_zero, Nat.zero_add, Nat.mul_zero, Nat.reduceAdd, Nat.reduceMul, Nat.reduceSub, ob1_e, ob2_e, ob3_e, ob4_e, ob6_e]
          · rw [← r2]
            have e9 : hd (nI 0 - nI 1) = nI 0 := hd_m (w := 0) (by omega)
            simp (disch := omega) only [f_X12_cool_14, b_X12_cool_14, b_X12_cool_69, areTwo_c, pairAt_c, inB_pl, pl_clamp, held_c, g1, g2, ht, e1, e2, hs, ew, hw0, e9, neg_nI, lit_nI, nI_add, pk_mul, pk_sub, nI_clamp, inB_nI, gd_true, bnd_def, nI_leI, nI_ltI, nI_eq, nI_mI, mI_nI, nle_T, nle_F, nlt_T, nlt_F, neq_T, neq_F, ↓reduceIte, Nat.add_zero, Nat.zero_add, Nat.mul_zero, Nat.reduceAdd, Nat.reduceMul, Nat.reduceSub, ob1_e, ob2_e, ob3_e, ob4_e, ob6_e]
        · have hI2 : IV G th (upd c (pl a b) (nI (w - 1))) := by
            have := hI.warm hG ha (show b < G by omega) ht (nI (w - 1))
            rw [hd_c (by omega)] at this
            exact this
          obtain ⟨c', m', r1, r2, r3, r4, r5, r6⟩ := ih (b + 1) n n' (upd c (pl a b) (nI (w - 1))) (upd m (pl a b) (nI (w - 1))) (by omega) (by omega) (by omega) (by omega) (hN.put _ _) hI2
          refine ⟨c', m', ?_, ?_, r3, r4, fun i hi => by rw [r5 i hi, upd_n (by omega)], fun i hi => by rw [r6 i hi, upd_n (by omega)]⟩
          · rw [← r1]
            simp (disch := omega) only [f_X9_cool_17, b_X9_cool_17, b_X9_cool_66, placeOf_c, inB_pl, pl_clamp, hs, ew, neg_nI, lit_nI, nI_add, pk_mul, pk_sub, nI_clamp, inB_nI, gd_true, bnd_def, nI_leI, nI_ltI, nI_eq, nI_mI, mI_nI, nle_T, nle_F, nlt_T, nlt_F, neq_T, neq_F, ↓reduceIte, Nat.add_zero, Nat.zero_add, Nat.mul_zero, Nat.reduceAdd, Nat.reduceMul, Nat.reduceSub, ob1_e, ob2_e, ob3_e, ob4_e, ob6_e]
          · rw [← r2]
            simp (disch := omega) only [f_X12_cool_14, b_X12_cool_14, b_X12_cool_69, areTwo_c, pairAt_c, inB_pl, pl_clamp, held_c, g1, g2, ht, e1, e2, hs, ew, hd_c, neg_nI, lit_nI, nI_add, pk_mul, pk_sub, nI_clamp, inB_nI, gd_true, bnd_def, nI_leI, nI_ltI, nI_eq, nI_mI, mI_nI, nle_T, nle_F, nlt_T, nlt_F, neq_T, neq_F, ↓reduceIte, Nat.add_zero, Nat.zero_add, Nat.mul_zero, Nat.reduceAdd, Nat.reduceMul, Nat.reduceSub, ob1_e, ob2_e, ob3_e, ob4_e, ob6_e]
theorem cool_out {G M : Nat} {th mg : Nat → Int32} (hG : G ≤ 6) (hh : ∀ g, g < G → mg (4 * g) = th g) : ∀ (j a n n' : Nat) (c m : Nat → Int32), a + j = G → j < n → j < n' → RN G M c m → IV G th c → ∃ c' m', f_X9_cool_2 (nI G) n c (nI a) = some (upd c' 67 (mn (nI 999) (c' 67 + nI 2))) ∧ f_X12_cool_2 (nI G) mg n' m (nI a) = some m' ∧ RN G M c' m' ∧ IV G th c' ∧ (∀ i, 36 ≤ i → c' i = c i) ∧ (∀ i, 36 ≤ i → m' i = m i) := by
  intro j
  induction j with
  | zero =>
    intro a n n' c m hb h1 h2 hN hI
    obtain ⟨n, rfl⟩ : ∃ q, n = q + 1 := ⟨n - 1, by omega⟩
    obtain ⟨n', rfl⟩ : ∃ q, n' = q + 1 := ⟨n' - 1, by omega⟩
    refine ⟨c, m, ?_, ?_, hN, hI, fun _ _ => rfl, fun _ _ => rfl⟩
    · simp (disch := omega) only [f_X9_cool_2, b_X9_cool_2, neg_nI, lit_nI, nI_add, pk_mul, pk_sub, nI_clamp, inB_nI, gd_true, bnd_def, nI_leI, nI_ltI, nI_eq, nI_mI, mI_nI, nle_T, nle_F, nlt_T, nlt_F, neq_T, neq_F, ↓reduceIte, Nat.add_zero, Nat.zero_add, Nat.mul_zero, Nat.reduceAdd, Nat.reduceMul, Nat.reduceSub, ob1_e, ob2_e, ob3_e, ob4_e, ob6_e]
    · simp (disch := omega) only [f_X12_cool_2, b_X12_cool_2, neg_nI, lit_nI, nI_add, pk_mul, pk_sub, nI_clamp, inB_nI, gd_true, bnd_def, nI_leI, nI_ltI, nI_eq, nI_mI, mI_nI, nle_T, nle_F, nlt_T, nlt_F, neq_T, neq_F, ↓reduceIte, Nat.add_zero, Nat.zero_add, Nat.mul_zero, Nat.reduceAdd, Nat.reduceMul, Nat.reduceSub, ob1_e, ob2_e, ob3_e, ob4_e, ob6_e]
  | succ j ih =>
    intro a n n' c m hb h1 h2 hN hI
    obtain ⟨n, rfl⟩ : ∃ q, n = q + 1 := ⟨n - 1, by omega⟩
    obtain ⟨n', rfl⟩ : ∃ q, n' = q + 1 := ⟨n' - 1, by omega⟩
    obtain ⟨c1, m1, p1, p2, p3, p4, p5, p6⟩ := cool_in (G := G) (M := M) (a := a) (th := th) (mg := mg) hG (by omega) hh (k := f_X9_cool_2 (nI G) n) (k' := f_X12_cool_2 (nI G) mg n') (G - (a + 1)) (a + 1) fu fu c m (by omega) (by omega) (by have := fu_le; omega) (by have := fu_le; omega) hN hI
    obtain ⟨c', m', r1, r2, r3, r4, r5, r6⟩ := ih (a + 1) n n' c1 m1 (by omega) (by omega) (by omega) p3 p4
    refine ⟨c', m', ?_, ?_, r3, r4, fun i hi => by rw [r5 i hi, p5 i hi], fun i hi => by rw [r6 i hi, p6 i hi]⟩
    · rw [← r1, ← p1]
      simp (disch := omega) only [f_X9_cool_2, b_X9_cool_2, neg_nI, lit_nI, nI_add, pk_mul, pk_sub, nI_clamp, inB_nI, gd_true, bnd_def, nI_leI, nI_ltI, nI_eq, nI_mI, mI_nI, nle_T, nle_F, nlt_T, nlt_F, neq_T, neq_F, ↓reduceIte, Nat.add_zero, Nat.zero_add, Nat.mul_zero, Nat.reduceAdd, Nat.reduceMul, Nat.reduceSub, ob1_e, ob2_e, ob3_e, ob4_e, ob6_e]
    · rw [← r2, ← p2]
      simp (disch := omega) only [f_X12_cool_2, b_X12_cool_2, neg_nI, lit_nI, nI_add, pk_mul, pk_sub, nI_clamp, inB_nI, gd_true, bnd_def, nI_leI, nI_ltI, nI_eq, nI_mI, mI_nI, nle_T, nle_F, nlt_T, nlt_F, neq_T, neq_F, ↓reduceIte, Nat.add_zero, Nat.zero_add, Nat.mul_zero, Nat.reduceAdd, Nat.reduceMul, Nat.reduceSub, ob1_e, ob2_e, ob3_e, ob4_e, ob6_e]
theorem dawn_in : ∀ (j k n : Nat) (c : Nat → Int32), k + j = 6 → j < n → ∃ c', f_X9_dawn_2 n c (nI k) = some c' ∧ (∀ i, 54 + k ≤ i ∧ i < 60 → c' i = mI 1) ∧ c' 65 = nI 0 ∧ c' 68 = c 68 + nI 1 ∧ (∀ i, (i < 54 + k ∨ 60 ≤ i) → i ≠ 65 → i ≠ 68 → c' i = c i) := by
  intro j
  induction j with
  | zero =>
    intro k n c hk h1
    obtain ⟨n, rfl⟩ : ∃ q, n = q + 1 := ⟨n - 1, by omega⟩
    refine ⟨upd (upd c 65 (nI 0)) 68 (upd c 65 (nI 0) 68 + nI 1), ?_, fun i hi => by omega, ?_, ?_, fun i h2 h3 h4 => ?_⟩
    · simp (disch := omega) only [f_X9_dawn_2, b_X9_dawn_2, neg_nI, lit_nI, nI_add, pk_mul, pk_sub, nI_clamp, inB_nI, gd_true, bnd_def, nI_leI, nI_ltI, nI_eq, nI_mI, mI_nI, nle_T, nle_F, nlt_T, nlt_F, neq_T, neq_F, ↓reduceIte, Nat.add_zero, Nat.zero_add, Nat.mul_zero, Nat.reduceAdd, Nat.reduceMul, Nat.reduceSub, ob1_e, ob2_e, ob3_e, ob4_e, ob6_e]
    · rw [upd_n (by omega), upd_y rfl]
    · rw [upd_y rfl, upd_n (by omega)]
    · rw [upd_n h4, upd_n h3]
  | succ j ih =>
    intro k n c hk h1
    obtain ⟨n, rfl⟩ : ∃ q, n = q + 1 := ⟨n - 1, by omega⟩
    obtain ⟨c', r1, r2, r3, r4, r5⟩ := ih (k + 1) n (upd c (54 + k) (mI 1)) (by omega) (by omega)
    refine ⟨c', ?_, fun i hi => ?_, r3, ?_, fun i h2 h3 h4 => ?_⟩
    · rw [← r1]
      simp (disch := omega) only [f_X9_dawn_2, b_X9_dawn_2, neg_nI, lit_nI, nI_add, pk_mul, pk_sub, nI_clamp, inB_nI, gd_true, bnd_def, nI_leI, nI_ltI, nI_eq, nI_mI, mI_nI, nle_T, nle_F, nlt_T, nlt_F, neq_T, neq_F, ↓reduceIte, Nat.add_zero, Nat.zero_add, Nat.mul_zero, Nat.reduceAdd, Nat.reduceMul, Nat.reduceSub, ob1_e, ob2_e, ob3_e, ob4_e, ob6_e]
    · by_cases e : i = 54 + k
      · rw [e, r5 _ (by omega) (by omega) (by omega), upd_y rfl]
      · exact r2 i (by omega)
    · rw [r4, upd_n (by omega)]
    · rw [r5 i (by omega) h3 h4, upd_n (by omega)]
theorem live_in {G : Nat} {mg : Nat → Int32} (hG : G ≤ 6) : ∀ (j k n : Nat) (c : Nat → Int32), k + j = G → j < n → ∃ c', f_X12_live_28 (nI G) mg n c (nI k) = some c' ∧ (∀ i, 54 + k ≤ i ∧ i < 54 + G → c' i = mI 1) ∧ c' 65 = nI 0 ∧ c' 68 = c 68 + nI 1 ∧ (∀ i, (i < 54 + k ∨ 54 + G ≤ i) → i ≠ 65 → i ≠ 68 → c' i = c i) := by
  intro j
  induction j with
  | zero =>
    intro k n c hk h1
    obtain ⟨n, rfl⟩ : ∃ q, n = q + 1 := ⟨n - 1, by omega⟩
    refine ⟨upd (upd c 65 (nI 0)) 68 (upd c 65 (nI 0) 68 + nI 1), ?_, fun i hi => by omega, ?_, ?_, fun i h2 h3 h4 => ?_⟩
    · simp (disch := omega) only [f_X12_live_28, b_X12_live_28, neg_nI, lit_nI, nI_add, pk_mul, pk_sub, nI_clamp, inB_nI, gd_true, bnd_def, nI_leI, nI_ltI, nI_eq, nI_mI, mI_nI, nle_T, nle_F, nlt_T, nlt_F, neq_T, neq_F, ↓reduceIte, Nat.add_zero, Nat.zero_add, Nat.mul_zero, Nat.reduceAdd, Nat.reduceMul, Nat.reduceSub, ob1_e, ob2_e, ob3_e, ob4_e, ob6_e]
    · rw [upd_n (by omega), upd_y rfl]
    · rw [upd_y rfl, upd_n (by omega)]
    · rw [upd_n h4, upd_n h3]
  | succ j ih =>
    intro k n c hk h1
    obtain ⟨n, rfl⟩ : ∃ q, n = q + 1 := ⟨n - 1, by omega⟩
    obtain ⟨c', r1, r2, r3, r4, r5⟩ := ih (k + 1) n (upd c (54 + k) (mI 1)) (by omega) (by omega)
    refine ⟨c', ?_, fun i hi => ?_, r3, ?_, fun i h2 h3 h4 => ?_⟩
    · rw [← r1]
      simp (disch := omega) only [f_X12_live_28, b_X12_live_28, neg_nI, lit_nI, nI_add, pk_mul, pk_sub, nI_clamp, inB_nI, gd_true, bnd_def, nI_leI, nI_ltI, nI_eq, nI_mI, mI_nI, nle_T, nle_F, nlt_T, nlt_F, neq_T, neq_F, ↓reduceIte, Nat.add_zero, Nat.zero_add, Nat.mul_zero, Nat.reduceAdd, Nat.reduceMul, Nat.reduceSub, ob1_e, ob2_e, ob3_e, ob4_e, ob6_e]
    · by_cases e : i = 54 + k
      · rw [e, r5 _ (by omega) (by omega) (by omega), upd_y rfl]
      · exact r2 i (by omega)
    · rw [r4, upd_n (by omega)]
    · rw [r5 i (by omega) h3 h4, upd_n (by omega)]
end
section
/-! bits and counts of gloves, matters -/
def bbF (p : Nat → Bool) : Nat → Nat → Int32 → Int32
  | 0, _, v => v
  | j + 1, k, v => bbF p j (k + 1) (if p k = true then v ||| ((1 : Int32) <<< (nI k &&& nI 31)) else v)
def cnF (p : Nat → Bool) : Nat → Nat → Int32 → Int32
  | 0, _, v => v
  | j + 1, k, v => cnF p j (k + 1) (if p k = true then v + nI 1 else v)
def pMet (c : Nat → Int32) (g : Nat) : Bool := decide (¬ c (54 + g) = mI 1)
theorem metBits_l {G : Nat} {c : Nat → Int32} (hG : G ≤ 6) : ∀ (j k n : Nat) (v : Int32), k + j = G → j < n → f_X9_metBits_4 (nI G) c n v (nI k) = some (bbF (pMet c) j k v) := by
  intro j
  induction j with
  | zero =>
    intro k n v hk h1
    obtain ⟨n, rfl⟩ : ∃ q, n = q + 1 := ⟨n - 1, by omega⟩
    simp (disch := omega) only [f_X9_metBits_4, b_X9_metBits_4, bbF, neg_nI, lit_nI, nI_add, pk_mul, pk_sub, nI_clamp, inB_nI, gd_true, bnd_def, nI_leI, nI_ltI, nI_eq, nI_mI, mI_nI, nle_T, nle_F, nlt_T, nlt_F, neq_T, neq_F, ↓reduceIte, Nat.add_zero, Nat.zero_add, Nat.mul_zero, Nat.reduceAdd, Nat.reduceMul, Nat.reduceSub, ob1_e, ob2_e, ob3_e, ob4_e, ob6_e]
  | succ j ih =>
    intro k n v hk h1
    obtain ⟨n, rfl⟩ : ∃ q, n = q + 1 := ⟨n - 1, by omega⟩
    by_cases hs : c (54 + k) = mI 1
    · have hp : pMet c k = false := by unfold pMet; rw [decide_eq_false (fun q => q hs)]
      simp (disch := omega) only [f_X9_metBits_4, b_X9_metBits_4, b_X9_metBits_29, hasMet_c, hs, bbF, hp, ih (k + 1) n _ (by omega) (by omega), Bool.false_eq_true, neg_nI, lit_nI, nI_add, pk_mul, pk_sub, nI_clamp, inB_nI, gd_true, bnd_def, nI_leI, nI_ltI, nI_eq, nI_mI, mI_nI, nle_T, nle_F, nlt_T, nlt_F, neq_T, neq_F, ↓reduceIte, Nat.add_zero, Nat.zero_add, Nat.mul_zero, Nat.reduceAdd, Nat.reduceMul, Nat.reduceSub, ob1_e, ob2_e, ob3_e, ob4_e, ob6_e]
    · have hp : pMet c k = true := by unfold pMet; rw [decide_eq_true hs]
      simp (disch := omega) only [f_X9_metBits_4, b_X9_metBits_4, b_X9_metBits_29, hasMet_c, hs, bbF, hp, ih (k + 1) n _ (by omega) (by omega), neg_nI, lit_nI, nI_add, pk_mul, pk_sub, nI_clamp, inB_nI, gd_true, bnd_def, nI_leI, nI_ltI, nI_eq, nI_mI, mI_nI, nle_T, nle_F, nlt_T, nlt_F, neq_T, neq_F, ↓reduceIte, Nat.add_zero, Nat.zero_add, Nat.mul_zero, Nat.reduceAdd, Nat.reduceMul, Nat.reduceSub, ob1_e, ob2_e, ob3_e, ob4_e, ob6_e]
theorem metMany_l {G : Nat} {c : Nat → Int32} (hG : G ≤ 6) : ∀ (j k n : Nat) (v : Int32), k + j = G → j < n → f_X12_metMany_4 (nI G) c n v (nI k) = some (cnF (pMet c) j k v) := by
  intro j
  induction j with
  | zero =>
    intro k n v hk h1
    obtain ⟨n, rfl⟩ : ∃ q, n = q + 1 := ⟨n - 1, by omega⟩
    simp (disch := omega) only [f_X12_metMany_4, b_X12_metMany_4, cnF, neg_nI, lit_nI, nI_add, pk_mul, pk_sub, nI_clamp, inB_nI, gd_true, bnd_def, nI_leI, nI_ltI, nI_eq, nI_mI, mI_nI, nle_T, nle_F, nlt_T, nlt_F, neq_T, neq_F, ↓reduceIte, Nat.add_zero, Nat.zero_add, Nat.mul_zero, Nat.reduceAdd, Nat.reduceMul, Nat.reduceSub, ob1_e, ob2_e, ob3_e, ob4_e, ob6_e]
  | succ j ih =>
    intro k n v hk h1
    obtain ⟨n, rfl⟩ : ∃ q, n = q + 1 := ⟨n - 1, by omega⟩
    have v0 : v + nI 0 = v := Int32.add_zero v
    by_cases hs : c (54 + k) = mI 1
    · have hp : pMet c k = false := by unfold pMet; rw [decide_eq_false (fun q => q hs)]
      simp (disch := omega) only [f_X12_metMany_4, b_X12_metMany_4, b_X12_metMany_26, isFree_c, hs, cnF, hp, v0, ih (k + 1) n _ (by omega) (by omega), Bool.false_eq_true, neg_nI, lit_nI, nI_add, pk_mul, pk_sub, nI_clamp, inB_nI, gd_true, bnd_def, nI_leI, nI_ltI, nI_eq, nI_mI, mI_nI, nle_T, nle_F, nlt_T, nlt_F, neq_T, neq_F, ↓reduceIte, Nat.add_zero, Nat.zero_add, Nat.mul_zero, Nat.reduceAdd, Nat.reduceMul, Nat.reduceSub, ob1_e, ob2_e, ob3_e, ob4_e, ob6_e]
    · have hp : pMet c k = true := by unfold pMet; rw [decide_eq_true hs]
      simp (disch := omega) only [f_X12_metMany_4, b_X12_metMany_4, b_X12_metMany_26, isFree_c, hs, cnF, hp, ih (k + 1) n _ (by omega) (by omega), neg_nI, lit_nI, nI_add, pk_mul, pk_sub, nI_clamp, inB_nI, gd_true, bnd_def, nI_leI, nI_ltI, nI_eq, nI_mI, mI_nI, nle_T, nle_F, nlt_T, nlt_F, neq_T, neq_F, ↓reduceIte, Nat.add_zero, Nat.zero_add, Nat.mul_zero, Nat.reduceAdd, Nat.reduceMul, Nat.reduceSub, ob1_e, ob2_e, ob3_e, ob4_e, ob6_e]
def p6 (b0 b1 b2 b3 b4 b5 : Bool) : Nat → Bool
  | 0 => b0
  | 1 => b1
  | 2 => b2
  | 3 => b3
  | 4 => b4
  | _ => b5
theorem bbF_cong {p q : Nat → Bool} : ∀ (j k : Nat) (v : Int32), (∀ i, k ≤ i → i < k + j → p i = q i) → bbF p j k v = bbF q j k v
  | 0, _, _, _ => rfl
  | j + 1, k, v, h => by
    unfold bbF
    rw [h k (by omega) (by omega)]
    exact bbF_cong j (k + 1) _ (fun i h1 h2 => h i (by omega) (by omega))
theorem cnF_cong {p q : Nat → Bool} : ∀ (j k : Nat) (v : Int32), (∀ i, k ≤ i → i < k + j → p i = q i) → cnF p j k v = cnF q j k v
  | 0, _, _, _ => rfl
  | j + 1, k, v, h => by
    unfold cnF
    rw [h k (by omega) (by omega)]
    exact cnF_cong j (k + 1) _ (fun i h1 h2 => h i (by omega) (by omega))
set_option maxRecDepth 100000 in
theorem bit6 : ∀ b0 b1 b2 b3 b4 b5 : Bool, ∀ G, G < 7 → f_J6_bitCount_0f7a4 (bbF (p6 b0 b1 b2 b3 b4 b5) G 0 (nI 0)) = some (cnF (p6 b0 b1 b2 b3 b4 b5) G 0 (nI 0)) := by decide +kernel
theorem p6_e (p : Nat → Bool) : ∀ i, i < 6 → p i = p6 (p 0) (p 1) (p 2) (p 3) (p 4) (p 5) i := by
  intro i hi
  rcases (show i = 0 ∨ i = 1 ∨ i = 2 ∨ i = 3 ∨ i = 4 ∨ i = 5 by omega) with rfl | rfl | rfl | rfl | rfl | rfl <;> rfl
theorem bitCount_c {p : Nat → Bool} {G : Nat} (h : G ≤ 6) : f_J6_bitCount_0f7a4 (bbF p G 0 (nI 0)) = some (cnF p G 0 (nI 0)) := by
  rw [bbF_cong (q := p6 (p 0) (p 1) (p 2) (p 3) (p 4) (p 5)) G 0 _ (fun i _ hi => p6_e p i (by omega)), cnF_cong (q := p6 (p 0) (p 1) (p 2) (p 3) (p 4) (p 5)) G 0 _ (fun i _ hi => p6_e p i (by omega))]
  exact bit6 _ _ _ _ _ _ G (by omega)
theorem metBits_c {G : Nat} {c : Nat → Int32} (hG : G ≤ 6) : f_X9_metBits (nI G) c = some (bbF (pMet c) G 0 (nI 0)) := metBits_l hG G 0 fu (nI 0) (by omega) (by have := fu_le; omega)
theorem metMany_c {G : Nat} {c : Nat → Int32} (hG : G ≤ 6) : f_X12_metMany (nI G) c = some (cnF (pMet c) G 0 (nI 0)) := metMany_l hG G 0 fu (nI 0) (by omega) (by have := fu_le; omega)
/-! warmth of all -/
def smF (c : Nat → Int32) : Nat → Nat → Int32 → Int32
  | 0, _, v => v
  | j + 1, k, v => smF c j (k + 1) (v + c k)
theorem smF_cong {c m : Nat → Int32} : ∀ (j k : Nat) (v : Int32), (∀ i, k ≤ i → i < k + j → m i = c i) → smF m j k v = smF c j k v
  | 0, _, _, _ => rfl
  | j + 1, k, v, h => by
    unfold smF
    rw [h k (by omega) (by omega)]
    exact smF_cong j (k + 1) _ (fun i h1 h2 => h i (by omega) (by omega))
theorem wallX_l {c : Nat → Int32} : ∀ (j k n : Nat) (v : Int32), k + j = 36 → j < n → f_X9_warmthOfAll_4 c n v (nI k) = some (smF c j k v) := by
  intro j
  induction j with
  | zero =>
    intro k n v hk h1
    obtain ⟨n, rfl⟩ : ∃ q, n = q + 1 := ⟨n - 1, by omega⟩
    simp (disch := omega) only [f_X9_warmthOfAll_4, b_X9_warmthOfAll_4, smF, neg_nI, lit_nI, nI_add, pk_mul, pk_sub, nI_clamp, inB_nI, gd_true, bnd_def, nI_leI, nI_ltI, nI_eq, nI_mI, mI_nI, nle_T, nle_F, nlt_T, nlt_F, neq_T, neq_F, ↓reduceIte, Nat.add_zero, Nat.zero_add, Nat.mul_zero, Nat.reduceAdd, Nat.reduceMul, Nat.reduceSub, ob1_e, ob2_e, ob3_e, ob4_e, ob6_e]
  | succ j ih =>
    intro k n v hk h1
    obtain ⟨n, rfl⟩ : ∃ q, n = q + 1 := ⟨n - 1, by omega⟩
    simp (disch := omega) only [f_X9_warmthOfAll_4, b_X9_warmthOfAll_4, smF, ih (k + 1) n _ (by omega) (by omega), neg_nI, lit_nI, nI_add, pk_mul, pk_sub, nI_clamp, inB_nI, gd_true, bnd_def, nI_leI, nI_ltI, nI_eq, nI_mI, mI_nI, nle_T, nle_F, nlt_T, nlt_F, neq_T, neq_F, ↓reduceIte, Nat.add_zero, Nat.zero_add, Nat.mul_zero, Nat.reduceAdd, Nat.reduceMul, Nat.reduceSub, ob1_e, ob2_e, ob3_e, ob4_e, ob6_e]
theorem wallY_l {c : Nat → Int32} : ∀ (j k n : Nat) (v : Int32), k + j = 36 → j < n → f_X12_warmthOfAll_4 c n v (nI k) = some (smF c j k v) := by
  intro j
  induction j with
  | zero =>
    intro k n v hk h1
    obtain ⟨n, rfl⟩ : ∃ q, n = q + 1 := ⟨n - 1, by omega⟩
    simp (disch := omega) only [f_X12_warmthOfAll_4, b_X12_warmthOfAll_4, smF, neg_nI, lit_nI, nI_add, pk_mul, pk_sub, nI_clamp, inB_nI, gd_true, bnd_def, nI_leI, nI_ltI, nI_eq, nI_mI, mI_nI, nle_T, nle_F, nlt_T, nlt_F, neq_T, neq_F, ↓reduceIte, Nat.add_zero, Nat.zero_add, Nat.mul_zero, Nat.reduceAdd, Nat.reduceMul, Nat.reduceSub, ob1_e, ob2_e, ob3_e, ob4_e, ob6_e]
  | succ j ih =>
    intro k n v hk h1
    obtain ⟨n, rfl⟩ : ∃ q, n = q + 1 := ⟨n - 1, by omega⟩
    simp (disch := omega) only [f_X12_warmthOfAll_4, b_X12_warmthOfAll_4, smF, ih (k + 1) n _ (by omega) (by omega), neg_nI, lit_nI, nI_add, pk_mul, pk_sub, nI_clamp, inB_nI, gd_true, bnd_def, nI_leI, nI_ltI, nI_eq, nI_mI, mI_nI, nle_T, nle_F, nlt_T, nlt_F, neq_T, neq_F, ↓reduceIte, Nat.add_zero, Nat.zero_add, Nat.mul_zero, Nat.reduceAdd, Nat.reduceMul, Nat.reduceSub, ob1_e, ob2_e, ob3_e, ob4_e, ob6_e]
def wall (c : Nat → Int32) : Int32 := smF c 36 0 (nI 0)
theorem wallX_c {c : Nat → Int32} : f_X9_warmthOfAll c = some (wall c) := wallX_l 36 0 fu (nI 0) (by omega) (by have := fu_le; omega)
theorem wallY_c {c : Nat → Int32} : f_X12_warmthOfAll c = some (wall c) := wallY_l 36 0 fu (nI 0) (by omega) (by have := fu_le; omega)
theorem wall_cong {c m : Nat → Int32} (h : ∀ i, i < 36 → m i = c i) : wall m = wall c := smF_cong 36 0 _ (fun i _ hi => h i (by omega))
/-! the book -/
theorem and127 {d : Nat} (h : d < 2 ^ 31) : nI d &&& nI 127 = nI (d % 128) := pk_andN (by omega) 7 (by decide)
def bk3 (bk : Nat → Int32) (d : Nat) (a b w : Int32) : Nat → Int32 := upd (upd (upd bk (d % 128 * 3) a) (d % 128 * 3 + 1) b) (d % 128 * 3 + 2) w
theorem write_c {bk : Nat → Int32} {d : Nat} {a b w : Int32} (h : d ≤ 999) : f_X3_write bk (nI d) a b w = some (bk3 bk d a b w) := by
  simp (disch := omega) only [f_X3_write, b_X3_write_0, and127, bk3, neg_nI, lit_nI, nI_add, pk_mul, pk_sub, nI_clamp, inB_nI, gd_true, bnd_def, nI_leI, nI_ltI, nI_eq, nI_mI, mI_nI, nle_T, nle_F, nlt_T, nlt_F, neq_T, neq_F, ↓reduceIte, Nat.add_zero, Nat.zero_add, Nat.mul_zero, Nat.reduceAdd, Nat.reduceMul, Nat.reduceSub, ob1_e, ob2_e, ob3_e, ob4_e, ob6_e]
theorem bk3_n {bk : Nat → Int32} {d x : Nat} {a b w : Int32} {q : Nat} (hq : q < 3) (h : x % 128 ≠ d % 128) : bk3 bk d a b w (x % 128 * 3 + q) = bk (x % 128 * 3 + q) := by
  unfold bk3
  rw [upd_n (by omega), upd_n (by omega), upd_n (by omega)]
/-! the model's log is shifted -/
theorem shift_l {G : Nat} {mg : Nat → Int32} {a b : Int32} : ∀ (j k n : Nat) (m : Nat → Int32), k + j = 180 → 3 ≤ k → j < n → ∃ m', f_X12_passDay_31 (nI G) mg n m a b (nI k) = b_X12_passDay_75 (nI G) mg (upd m' 69 (m' 69 - nI 1)) a b ∧ (∀ i, k ≤ i → i < 180 → m' (70 + i - 3) = m (70 + i)) ∧ (∀ i, i + 3 < 70 + k ∨ 250 ≤ i → m' i = m i) := by
  intro j
  induction j with
  | zero =>
    intro k n m hk h3 h1
    obtain ⟨n, rfl⟩ : ∃ q, n = q + 1 := ⟨n - 1, by omega⟩
    refine ⟨m, ?_, fun i h2 h3 => by omega, fun _ _ => rfl⟩
    simp (disch := omega) only [f_X12_passDay_31, b_X12_passDay_31, neg_nI, lit_nI, nI_add, pk_mul, pk_sub, nI_clamp, inB_nI, gd_true, bnd_def, nI_leI, nI_ltI, nI_eq, nI_mI, mI_nI, nle_T, nle_F, nlt_T, nlt_F, neq_T, neq_F, ↓reduceIte, Nat.add_zero, Nat.zero_add, Nat.mul_zero, Nat.reduceAdd, Nat.reduceMul, Nat.reduceSub, ob1_e, ob2_e, ob3_e, ob4_e, ob6_e]
  | succ j ih =>
    intro k n m hk h3 h1
    obtain ⟨n, rfl⟩ : ∃ q, n = q + 1 := ⟨n - 1, by omega⟩
    obtain ⟨m', r1, r2, r3⟩ := ih (k + 1) n (upd m (70 + k - 3) (m (70 + k))) (by omega) (by omega) (by omega)
    refine ⟨m', ?_, fun i h2 h4 => ?_, fun i hi => ?_⟩
    · rw [← r1]
      simp (disch := omega) only [f_X12_passDay_31, b_X12_passDay_31, neg_nI, lit_nI, nI_add, pk_mul, pk_sub, nI_clamp, inB_nI, gd_true, bnd_def, nI_leI, nI_ltI, nI_eq, nI_mI, mI_nI, nle_T, nle_F, nlt_T, nlt_F, neq_T, neq_F, ↓reduceIte, Nat.add_zero, Nat.zero_add, Nat.mul_zero, Nat.reduceAdd, Nat.reduceMul, Nat.reduceSub, ob1_e, ob2_e, ob3_e, ob4_e, ob6_e]
    · by_cases e : i = k
      · rw [e, r3 _ (by omega), upd_y rfl]
      · rw [r2 i (by omega) h4, upd_n (by omega)]
    · rw [r3 i (by omega), upd_n (by omega)]
theorem note_c {G L : Nat} {mg m : Nat → Int32} {a b : Int32} (hL : L < 60) (hm : m 69 = nI L) : ∃ m', b_X12_passDay_75 (nI G) mg m a b = some m' ∧ m' 69 = nI (L + 1) ∧ m' (70 + 3 * L) = a ∧ m' (70 + 3 * L + 1) = b ∧ m' (70 + 3 * L + 2) = wall m ∧ (∀ i, i < 69 ∨ (70 ≤ i ∧ i < 70 + 3 * L) → m' i = m i) := by
  have e1 : wall (upd (upd m (70 + 3 * L) a) (70 + 3 * L + 1) b) = wall m := wall_cong (fun i hi => by rw [upd_n (by omega), upd_n (by omega)])
  refine ⟨upd (upd (upd (upd m (70 + 3 * L) a) (70 + 3 * L + 1) b) (70 + 3 * L + 2) (wall m)) 69 (nI (L + 1)), ?_, upd_y rfl, ?_, ?_, ?_, fun i hi => ?_⟩
  · simp (disch := omega) only [b_X12_passDay_75, hm, wallY_c, e1, upd_n, neg_nI, lit_nI, nI_add, pk_mul, pk_sub, nI_clamp, inB_nI, gd_true, bnd_def, nI_leI, nI_ltI, nI_eq, nI_mI, mI_nI, nle_T, nle_F, nlt_T, nlt_F, neq_T, neq_F, ↓reduceIte, Nat.add_zero, Nat.zero_add, Nat.mul_zero, Nat.reduceAdd, Nat.reduceMul, Nat.reduceSub, ob1_e, ob2_e, ob3_e, ob4_e, ob6_e]
  · rw [upd_n (by omega), upd_n (by omega), upd_n (by omega), upd_y rfl]
  · rw [upd_n (by omega), upd_n (by omega), upd_y rfl]
  · rw [upd_n (by omega), upd_y rfl]
  · rw [upd_n (by omega), upd_n (by omega), upd_n (by omega), upd_n (by omega)]
theorem live_c {G M : Nat} {th mg : Nat → Int32} (hG : G ≤ 6) (hM : M ≤ 5) (hh : ∀ g, g < G → mg (4 * g) = th g) {c m : Nat → Int32} (hN : RN G M c m) (hI : IV G th c) : ∃ c2 c3 m3, f_X9_cool (nI G) c = some c2 ∧ f_X9_dawn c2 = some c3 ∧ f_X12_live (nI G) mg m = some m3 ∧ RN G M c3 m3 ∧ (∀ i, i < 36 → ∃ w, w ≤ 99 ∧ c3 i = nI w ∧ (w = 0 ∨ ∃ a b, a < b ∧ b < G ∧ ¬ th a = th b ∧ i = pl a b)) ∧ (∀ i, i < 36 → c3 i = c2 i) ∧ (∀ i, 36 ≤ i → i ≠ 67 → c2 i = c i) ∧ (∀ i, 36 ≤ i ∧ i < 48 → c3 i = c i) ∧ c3 68 = c 68 + nI 1 ∧ (∀ i, 69 ≤ i → m3 i = m i) := by
  obtain ⟨c1, m1, r1, r2, r3, r4, r5, r6⟩ := cool_out (G := G) (M := M) (th := th) (mg := mg) hG hh G 0 fu fu c m (by omega) (by have := fu_le; omega) (by have := fu_le; omega) hN hI
  have e67 : m1 67 = c1 67 := r3 67 (by omega)
  obtain ⟨c3, d1, d2, d3, d4, d5⟩ := dawn_in 6 0 fu (upd c1 67 (mn (nI 999) (c1 67 + nI 2))) (by omega) (by have := fu_le; omega)
  obtain ⟨m3, l1, l2, l3, l4, l5⟩ := live_in (G := G) (mg := mg) hG G 0 fu (upd m1 67 (mn (nI 999) (c1 67 + nI 2))) (by omega) (by have := fu_le; omega)
  have hN2 := r3.put 67 (mn (nI 999) (c1 67 + nI 2))
  refine ⟨upd c1 67 (mn (nI 999) (c1 67 + nI 2)), c3, m3, r1, d1, ?_, ?_, ?_, ?_, ?_, ?_, ?_, ?_⟩
  · have q : f_X12_cool (nI G) mg m = some m1 := r2
    simp (disch := omega) only [f_X12_live, b_X12_live_0, q, e67, neg_nI, lit_nI, nI_add, pk_mul, pk_sub, nI_clamp, inB_nI, gd_true, bnd_def, nI_leI, nI_ltI, nI_eq, nI_mI, mI_nI, nle_T, nle_F, nlt_T, nlt_F, neq_T, neq_F, ↓reduceIte, Nat.add_zero, Nat.zero_add, Nat.mul_zero, Nat.reduceAdd, Nat.reduceMul, Nat.reduceSub, ob1_e, ob2_e, ob3_e, ob4_e, ob6_e]
    exact l1
  · intro i hi
    by_cases h54 : 54 ≤ i ∧ i < 54 + G
    · rw [d2 i (by omega), l2 i (by omega)]
    · by_cases h65 : i = 65
      · rw [h65, d3, l3]
      · by_cases h68 : i = 68
        · rw [h68, d4, l4, hN2 68 (by omega)]
        · rw [d5 i (by omega) h65 h68, l5 i (by omega) h65 h68]
          exact hN2 i hi
  · intro i hi
    rw [d5 i (by omega) (by omega) (by omega), upd_n (by omega)]
    exact r4.1 i hi
  · intro i hi
    exact d5 i (by omega) (by omega) (by omega)
  · intro i h1 h2
    rw [upd_n h2]
    exact r5 i h1
  · intro i hi
    rw [d5 i (by omega) (by omega) (by omega), upd_n (by omega)]
    exact r5 i (by omega)
  · rw [d4, upd_n (by omega), r5 68 (by omega)]
  · intro i hi
    rw [l5 i (by omega) (by omega) (by omega), upd_n (by omega)]
    exact r6 i (by omega)
theorem pass_l {G M d : Nat} {th mg bk : Nat → Int32} (hG : G ≤ 6) (hM : M ≤ 5) (hh : ∀ g, g < G → mg (4 * g) = th g) {c m : Nat → Int32} (hC : RC G M th bk d c m) (hd9 : d < 999) : ∃ c' bk' m', f_X11_passDay (nI G) c bk = some (c', bk') ∧ f_X12_passDay (nI G) mg m = some m' ∧ RC G M th bk' (d + 1) c' m' ∧ (∀ x q, q < 3 → x % 128 ≠ d % 128 → bk' (x % 128 * 3 + q) = bk (x % 128 * 3 + q)) := by
  obtain ⟨hN, hI, ⟨hday, -⟩, hL, hR⟩ := hC
  obtain ⟨c2, c3, m3, r1, r2, r3, r4, r5, r6, r7, r8, r9, r10⟩ := live_c hG hM hh hN hI
  have eday : c2 68 = nI d := by rw [r7 68 (by omega) (by omega)]; exact hday
  have e65 : c2 65 = c 65 := r7 65 (by omega) (by omega)
  have m65 : m 65 = c 65 := hN 65 (by omega)
  have emet : cnF (pMet m) G 0 (nI 0) = cnF (pMet c2) G 0 (nI 0) := by
    refine cnF_cong G 0 _ (fun i _ hi => ?_)
    unfold pMet
    rw [hN (54 + i) (by omega), r7 (54 + i) (by omega) (by omega)]
  have ew : wall m3 = wall c2 := wall_cong (fun i hi => by rw [r4 i (by omega)]; exact r6 i hi)
  have e68 : c3 68 = nI (d + 1) := by rw [r9, hday, nI_add]
  have hI3 : IV G th c3 := ⟨r5, fun g hg => by rw [r8 (36 + g) (by omega)]; exact hI.2.1 g hg, d + 1, by omega, e68⟩
  have fin : ∃ m', f_X12_passDay (nI G) mg m = some m' ∧ (∀ i, i < 69 → m' i = m3 i) ∧ RLog (bk3 bk d (cnF (pMet c2) G 0 (nI 0)) (c 65) (wall c2)) (d + 1) m' := by
    by_cases h60 : 60 ≤ d
    · have e69 : m3 69 = nI 60 := by rw [r10 69 (by omega), hL, Nat.min_eq_left h60]
      obtain ⟨m4, s1, s2, s3⟩ := shift_l (G := G) (mg := mg) (a := cnF (pMet m) G 0 (nI 0)) (b := m 65) 177 3 fu m3 (by omega) (by omega) (by have := fu_le; omega)
      have e4 : m4 69 = nI 60 := by rw [s3 69 (by omega)]; exact e69
      obtain ⟨m5, n1, n2, n3, n4, n5, n6⟩ := note_c (G := G) (L := 59) (mg := mg) (m := upd m4 69 (m4 69 - nI 1)) (a := cnF (pMet m) G 0 (nI 0)) (b := m 65) (by omega) (by rw [upd_y rfl, e4, pk_sub (by omega)])
      refine ⟨m5, ?_, fun i hi => ?_, ?_, ?_⟩
      · rw [← n1, ← s1]
        simp (disch := omega) only [f_X12_passDay, b_X12_passDay_0, metMany_c hG, r3, e69, neg_nI, lit_nI, nI_add, pk_mul, pk_sub, nI_clamp, inB_nI, gd_true, bnd_def, nI_leI, nI_ltI, nI_eq, nI_mI, mI_nI, nle_T, nle_F, nlt_T, nlt_F, neq_T, neq_F, ↓reduceIte, Nat.add_zero, Nat.zero_add, Nat.mul_zero, Nat.reduceAdd, Nat.reduceMul, Nat.reduceSub, ob1_e, ob2_e, ob3_e, ob4_e, ob6_e]
      · rw [n6 i (by omega), upd_n (by omega), s3 i (by omega)]
      · rw [n2, Nat.min_eq_left (by omega)]
      · intro r hr w hw
        rw [Nat.min_eq_left (by omega)] at hr ⊢
        by_cases er : r = 59
        · subst er
          rw [show (d + 1 - 60 + 59) = d by omega]
          unfold bk3
          rcases (show w = 0 ∨ w = 1 ∨ w = 2 by omega) with rfl | rfl | rfl
          · rw [upd_n (by omega), upd_n (by omega), upd_y (by omega), ← emet, ← n3]
          · rw [upd_n (by omega), upd_y (by omega), ← m65, ← n4]
          · rw [upd_y (by omega)]
            rw [show 70 + (3 * 59 + 2) = 70 + 3 * 59 + 2 by omega, n5, ← ew]
            exact wall_cong (fun i hi => by rw [upd_n (by omega), s3 i (by omega)])
        · rw [bk3_n hw (by omega), n6 _ (by omega), upd_n (by omega)]
          have q1 := s2 (3 * (r + 1) + w) (by omega) (by omega)
          rw [show 70 + (3 * (r + 1) + w) - 3 = 70 + (3 * r + w) by omega] at q1
          rw [q1, r10 _ (by omega), hR (r + 1) (by omega) w hw]
          rw [Nat.min_eq_left h60, show d - 60 + (r + 1) = d + 1 - 60 + r by omega]
    · have e69 : m3 69 = nI d := by rw [r10 69 (by omega), hL, Nat.min_eq_right (by omega)]
      obtain ⟨m5, n1, n2, n3, n4, n5, n6⟩ := note_c (G := G) (L := d) (mg := mg) (m := m3) (a := cnF (pMet m) G 0 (nI 0)) (b := m 65) (by omega) e69
      refine ⟨m5, ?_, fun i hi => n6 i (by omega), ?_, ?_⟩
      · rw [← n1]
        simp (disch := omega) only [f_X12_passDay, b_X12_passDay_0, metMany_c hG, r3, e69, neg_nI, lit_nI, nI_add, pk_mul, pk_sub, nI_clamp, inB_nI, gd_true, bnd_def, nI_leI, nI_ltI, nI_eq, nI_mI, mI_nI, nle_T, nle_F, nlt_T, nlt_F, neq_T, neq_F, ↓reduceIte, Nat.add_zero, Nat.zero_add, Nat.mul_zero, Nat.reduceAdd, Nat.reduceMul, Nat.reduceSub, ob1_e, ob2_e, ob3_e, ob4_e, ob6_e]
      · rw [n2, Nat.min_eq_right (by omega)]
      · intro r hr w hw
        rw [Nat.min_eq_right (by omega)] at hr ⊢
        rw [show d + 1 - (d + 1) + r = r by omega]
        by_cases er : r = d
        · subst er
          unfold bk3
          rcases (show w = 0 ∨ w = 1 ∨ w = 2 by omega) with rfl | rfl | rfl
          · rw [upd_n (by omega), upd_n (by omega), upd_y (by omega), ← emet, ← n3]
            exact congrArg m5 (by omega)
          · rw [upd_n (by omega), upd_y (by omega), ← m65, ← n4]
            exact congrArg m5 (by omega)
          · rw [upd_y (by omega), show 70 + (3 * r + 2) = 70 + 3 * r + 2 by omega, n5, ← ew]
        · rw [bk3_n hw (by omega), n6 _ (by omega), r10 _ (by omega), hR r (by omega) w hw]
          rw [Nat.min_eq_right (by omega), show d - d + r = r by omega]
  obtain ⟨m', f1, f2, f3⟩ := fin
  refine ⟨c3, bk3 bk d (cnF (pMet c2) G 0 (nI 0)) (c 65) (wall c2), m', ?_, f1, ⟨fun i hi => ?_, hI3, ⟨e68, by omega⟩, f3⟩, fun x q hq hx => bk3_n hq hx⟩
  · have q65 : f_X9_signedToday c2 = some (c 65) := by rw [← e65]; rfl
    simp (disch := omega) only [f_X11_passDay, b_X11_passDay_0, r1, r2, day_c, eday, metBits_c hG, bitCount_c, q65, wallX_c, write_c, neg_nI, lit_nI, nI_add, pk_mul, pk_sub, nI_clamp, inB_nI, gd_true, bnd_def, nI_leI, nI_ltI, nI_eq, nI_mI, mI_nI, nle_T, nle_F, nlt_T, nlt_F, neq_T, neq_F, ↓reduceIte, Nat.add_zero, Nat.zero_add, Nat.mul_zero, Nat.reduceAdd, Nat.reduceMul, Nat.reduceSub, ob1_e, ob2_e, ob3_e, ob4_e, ob6_e]
  · rw [f2 i (by omega)]
    exact r4 i hi
/-- a day goes by: the acts kept stay as they are -/
theorem RA.pass {G M s nx d : Nat} {th bk bk' rows kept : Nat → Int32} {dd : Nat → Nat} (hA : RA G M th bk s nx rows kept dd) (hd : dd s = d) (hb : ∀ x q, q < 3 → x % 128 ≠ d % 128 → bk' (x % 128 * 3 + q) = bk (x % 128 * 3 + q)) : RA G M th bk' s nx rows kept dd := by
  obtain ⟨hs, hn, hr⟩ := hA
  have hdd : ∀ q j, j + q = s → dd j ≤ d ∧ d ≤ dd j + q := by
    intro q
    induction q with
    | zero =>
      intro j hj
      have : j = s := by omega
      rw [this, hd]
      omega
    | succ q ih =>
      intro j hj
      have h1 := ih (j + 1) (by omega)
      have h2 := (hr j (by omega)).2
      omega
  refine ⟨hs, hn, fun j hj => ?_⟩
  obtain ⟨⟨h1, h2, h3, h4, h5⟩, h6⟩ := hr j hj
  have h7 := hdd (s - j) j (by omega)
  refine ⟨⟨h1, h2, h3, h4, fun r hr2 w hw => ?_⟩, h6⟩
  rw [h5 r hr2 w hw]
  exact (hb _ w hw (by omega)).symm
/-- behind a kept act the day may go on -/
theorem RA.next {G M s nx d d' : Nat} {th bk rows kept : Nat → Int32} {dd : Nat → Nat} (hA : RA G M th bk s nx rows kept dd) (h1 : dd (s - 1) = d) (h0 : 0 < s) (h2 : d ≤ d') (h3 : d' ≤ d + 1) : RA G M th bk s nx rows kept (fun j => if j = s then d' else dd j) := by
  obtain ⟨hs, hn, hr⟩ := hA
  refine ⟨hs, hn, fun j hj => ?_⟩
  obtain ⟨q1, q2⟩ := hr j hj
  show RC G M th bk (if j = s then d' else dd j) _ _ ∧ (if j = s then d' else dd j) ≤ (if j + 1 = s then d' else dd (j + 1)) ∧ (if j + 1 = s then d' else dd (j + 1)) ≤ (if j = s then d' else dd j) + 1
  rw [if_neg (by omega)]
  refine ⟨q1, ?_⟩
  by_cases e : j + 1 = s
  · rw [if_pos e]
    have : j = s - 1 := by omega
    rw [this, h1]
    omega
  · rw [if_neg e]
    exact q2
end
section
/-! the acts: each by both -/
theorem refuse_c {rf : Nat → Int32} {k : Nat} (h : k < 5) : f_X11_refuse rf (nI k) = some (mI 1, upd rf k (rf k + nI 1)) := by
  simp (disch := omega) only [f_X11_refuse, b_X11_refuse_0, neg_nI, lit_nI, nI_add, pk_mul, pk_sub, nI_clamp, inB_nI, gd_true, bnd_def, nI_leI, nI_ltI, nI_eq, nI_mI, mI_nI, nle_T, nle_F, nlt_T, nlt_F, neq_T, neq_F, ↓reduceIte, Nat.add_zero, Nat.zero_add, Nat.mul_zero, Nat.reduceAdd, Nat.reduceMul, Nat.reduceSub, ob1_e, ob2_e, ob3_e, ob4_e, ob6_e]
theorem isRefused_c {rf : Nat → Int32} {k : Nat} (h : k < 5) : f_X12_isRefused rf (nI k) = some (nI 1, upd rf k (rf k + nI 1)) := by
  simp (disch := omega) only [f_X12_isRefused, b_X12_isRefused_0, b_X12_isRefused_15, neg_nI, lit_nI, nI_add, pk_mul, pk_sub, nI_clamp, inB_nI, gd_true, bnd_def, nI_leI, nI_ltI, nI_eq, nI_mI, mI_nI, nle_T, nle_F, nlt_T, nlt_F, neq_T, neq_F, ↓reduceIte, Nat.add_zero, Nat.zero_add, Nat.mul_zero, Nat.reduceAdd, Nat.reduceMul, Nat.reduceSub, ob1_e, ob2_e, ob3_e, ob4_e, ob6_e]
theorem isRefused_n {rf : Nat → Int32} : f_X12_isRefused rf (mI 1) = some (nI 0, rf) := (rfl)
def RF (rf mr : Nat → Int32) : Prop := ∀ i, i < 5 → mr i = rf i
theorem RF.put {rf mr : Nat → Int32} (h : RF rf mr) (k : Nat) (hk : k < 5) : RF (upd rf k (rf k + nI 1)) (upd mr k (mr k + nI 1)) := by
  intro i hi
  by_cases e : i = k
  · rw [upd_y e, upd_y e, h k hk]
  · rw [upd_n e, upd_n e]
    exact h i hi
def RD (G M : Nat) (th bk : Nat → Int32) (s nx : Nat) (rows kept c m rf mr : Nat → Int32) : Prop := ∃ d dd, RC G M th bk d c m ∧ RA G M th bk s nx rows kept dd ∧ dd s = d ∧ RF rf mr
theorem RC.act {G M d : Nat} {th bk c m c' m' : Nat → Int32} (hC : RC G M th bk d c m) (hN : RN G M c' m') (hI : IV G th c') (h68 : c' 68 = c 68) (hm : ∀ i, 69 ≤ i → m' i = m i) : RC G M th bk d c' m' := by
  obtain ⟨h1, h2, h3, h4, h5⟩ := hC
  refine ⟨hN, hI, by rw [h68]; exact h3, by rw [hm 69 (by omega)]; exact h4, fun r hr w hw => ?_⟩
  rw [hm _ (by omega)]
  exact h5 r hr w hw
theorem RD.ref {G M s nx : Nat} {th bk rows kept c m rf mr : Nat → Int32} (h : RD G M th bk s nx rows kept c m rf mr) (k : Nat) (hk : k < 5) : RD G M th bk s nx rows kept c m (upd rf k (rf k + nI 1)) (upd mr k (mr k + nI 1)) := by
  obtain ⟨d, dd, h1, h2, h3, h4⟩ := h
  exact ⟨d, dd, h1, h2, h3, h4.put k hk⟩
theorem noPeace_y {G : Nat} (h : G = 0) : f_X11_noPeace (nI G) = some (nI 1) := by subst h; rfl
theorem noPeace_n {G : Nat} (h : 0 < G ∧ G ≤ 6) : f_X11_noPeace (nI G) = some (nI 0) := by
  simp (disch := omega) only [f_X11_noPeace, b_X11_noPeace_0, neg_nI, lit_nI, nI_add, pk_mul, pk_sub, nI_clamp, inB_nI, gd_true, bnd_def, nI_leI, nI_ltI, nI_eq, nI_mI, mI_nI, nle_T, nle_F, nlt_T, nlt_F, neq_T, neq_F, ↓reduceIte, Nat.add_zero, Nat.zero_add, Nat.mul_zero, Nat.reduceAdd, Nat.reduceMul, Nat.reduceSub, ob1_e, ob2_e, ob3_e, ob4_e, ob6_e]
theorem sub_negI (x y : Int32) : x - -y = x + y := by rw [Int32.sub_eq_add_neg, Int32.neg_neg]
section DE
variable {G M s nx : Nat} {th bk rows kept c m rf mr : Nat → Int32}
theorem s_loosen (hG : G ≤ 6) (hM : M ≤ 5) (hD : RD G M th bk s nx rows kept c m rf mr) (x : Int32) : ∃ r rf' c' s' nx' rows' m' mr' kept', f_X11_loosen (nI G) rf c (nI s) (nI nx) rows x = some (r, rf', c', nI s', nI nx', rows') ∧ f_X12_loosen (nI G) (nI s) m mr kept x = some (r, nI s', m', mr', kept') ∧ RD G M th bk s' nx' rows' kept' c' m' rf' mr' := by
  have hD0 := hD
  obtain ⟨d, dd, hC, hA, hd, hF⟩ := hD
  have hN := hC.1
  have hI := hC.2.1
  have m67 : m 67 = c 67 := hN 67 (by omega)
  rcases glove_or x hG with ⟨g, hg, rfl⟩ | ⟨q1, q2⟩
  · have mg : m (36 + g) = c (36 + g) := hN (36 + g) (by omega)
    obtain ⟨f, hf, ef⟩ := hI.2.1 g hg
    by_cases f9 : f = 9
    · refine ⟨mI 1, _, c, s, nx, rows, m, _, kept, ?_, ?_, hD0.ref 2 (by omega)⟩
      · simp (disch := omega) only [f_X11_loosen, b_X11_loosen_0, hasGlove_y, free_c, coins_c, ef, f9, refuse_c, neg_nI, lit_nI, nI_add, pk_mul, pk_sub, nI_clamp, inB_nI, gd_true, bnd_def, nI_leI, nI_ltI, nI_eq, nI_mI, mI_nI, nle_T, nle_F, nlt_T, nlt_F, neq_T, neq_F, ↓reduceIte, Nat.add_zero, Nat.zero_add, Nat.mul_zero, Nat.reduceAdd, Nat.reduceMul, Nat.reduceSub, ob1_e, ob2_e, ob3_e, ob4_e, ob6_e]
      · simp (disch := omega) only [f_X12_loosen, b_X12_loosen_47, b_X12_loosen_0, isGlove_y, mg, ef, f9, isRefused_c, neg_nI, lit_nI, nI_add, pk_mul, pk_sub, nI_clamp, inB_nI, gd_true, bnd_def, nI_leI, nI_ltI, nI_eq, nI_mI, mI_nI, nle_T, nle_F, nlt_T, nlt_F, neq_T, neq_F, ↓reduceIte, Nat.add_zero, Nat.zero_add, Nat.mul_zero, Nat.reduceAdd, Nat.reduceMul, Nat.reduceSub, ob1_e, ob2_e, ob3_e, ob4_e, ob6_e]
    · by_cases h3 : nI 3 ≤ c 67
      · obtain ⟨s', nx', rows', kept', dd', k1, k2, k3, k4, k5, k6⟩ := keep_l hG hM hA hd hC
        refine ⟨nI (f + 1), rf, upd (upd c 67 (c 67 - nI 3)) (36 + g) (nI (f + 1)), s', nx', rows', upd (upd m (36 + g) (nI (f + 1))) 67 (c 67 - nI 3), mr, kept', ?_, ?_, d, dd', hC.act ?_ ?_ ?_ ?_, k3, k4, hF⟩
        · simp (disch := omega) only [f_X11_loosen, b_X11_loosen_0, f_X9_pay, b_X9_pay_0, f_X9_setFree, b_X9_setFree_0, hasGlove_y, free_c, coins_c, ef, h3, k1, upd_n, upd_y, neg_nI, lit_nI, nI_add, pk_mul, pk_sub, nI_clamp, inB_nI, gd_true, bnd_def, nI_leI, nI_ltI, nI_eq, nI_mI, mI_nI, nle_T, nle_F, nlt_T, nlt_F, neq_T, neq_F, ↓reduceIte, Nat.add_zero, Nat.zero_add, Nat.mul_zero, Nat.reduceAdd, Nat.reduceMul, Nat.reduceSub, ob1_e, ob2_e, ob3_e, ob4_e, ob6_e]
        · simp (disch := omega) only [f_X12_loosen, b_X12_loosen_47, b_X12_loosen_0, isGlove_y, mg, m67, ef, h3, k2, isRefused_n, upd_n, upd_y, neg_nI, lit_nI, nI_add, pk_mul, pk_sub, nI_clamp, inB_nI, gd_true, bnd_def, nI_leI, nI_ltI, nI_eq, nI_mI, mI_nI, nle_T, nle_F, nlt_T, nlt_F, neq_T, neq_F, ↓reduceIte, Nat.add_zero, Nat.zero_add, Nat.mul_zero, Nat.reduceAdd, Nat.reduceMul, Nat.reduceSub, ob1_e, ob2_e, ob3_e, ob4_e, ob6_e]
        · intro i hi
          by_cases e1 : i = 67
          · rw [upd_y e1, upd_n (by omega), upd_y e1]
          · by_cases e2 : i = 36 + g
            · rw [upd_n e1, upd_y e2, upd_y e2]
            · rw [upd_n e1, upd_n e2, upd_n e2, upd_n e1]
              exact hN i hi
        · refine ⟨fun i hi => ?_, fun q hq => ?_, ?_⟩
          · rw [upd_n (by omega), upd_n (by omega)]
            exact hI.1 i hi
          · by_cases e : q = g
            · rw [upd_y (by omega)]
              exact ⟨f + 1, by omega, rfl⟩
            · rw [upd_n (by omega), upd_n (by omega)]
              exact hI.2.1 q hq
          · rw [upd_n (by omega), upd_n (by omega)]
            exact hI.2.2
        · rw [upd_n (by omega), upd_n (by omega)]
        · intro i hi
          rw [upd_n (by omega), upd_n (by omega)]
      · refine ⟨mI 1, _, c, s, nx, rows, m, _, kept, ?_, ?_, hD0.ref 3 (by omega)⟩
        · simp (disch := omega) only [f_X11_loosen, b_X11_loosen_0, hasGlove_y, free_c, coins_c, ef, h3, refuse_c, neg_nI, lit_nI, nI_add, pk_mul, pk_sub, nI_clamp, inB_nI, gd_true, bnd_def, nI_leI, nI_ltI, nI_eq, nI_mI, mI_nI, nle_T, nle_F, nlt_T, nlt_F, neq_T, neq_F, ↓reduceIte, Nat.add_zero, Nat.zero_add, Nat.mul_zero, Nat.reduceAdd, Nat.reduceMul, Nat.reduceSub, ob1_e, ob2_e, ob3_e, ob4_e, ob6_e]
        · simp (disch := omega) only [f_X12_loosen, b_X12_loosen_47, b_X12_loosen_0, isGlove_y, mg, m67, ef, h3, isRefused_c, neg_nI, lit_nI, nI_add, pk_mul, pk_sub, nI_clamp, inB_nI, gd_true, bnd_def, nI_leI, nI_ltI, nI_eq, nI_mI, mI_nI, nle_T, nle_F, nlt_T, nlt_F, neq_T, neq_F, ↓reduceIte, Nat.add_zero, Nat.zero_add, Nat.mul_zero, Nat.reduceAdd, Nat.reduceMul, Nat.reduceSub, ob1_e, ob2_e, ob3_e, ob4_e, ob6_e]
  · refine ⟨mI 1, _, c, s, nx, rows, m, _, kept, ?_, ?_, hD0.ref 0 (by omega)⟩
    · simp (disch := omega) only [f_X11_loosen, b_X11_loosen_0, q1, refuse_c, neg_nI, lit_nI, nI_add, pk_mul, pk_sub, nI_clamp, inB_nI, gd_true, bnd_def, nI_leI, nI_ltI, nI_eq, nI_mI, mI_nI, nle_T, nle_F, nlt_T, nlt_F, neq_T, neq_F, ↓reduceIte, Nat.add_zero, Nat.zero_add, Nat.mul_zero, Nat.reduceAdd, Nat.reduceMul, Nat.reduceSub, ob1_e, ob2_e, ob3_e, ob4_e, ob6_e]
    · simp (disch := omega) only [f_X12_loosen, b_X12_loosen_47, b_X12_loosen_0, q2, isRefused_c, neg_nI, lit_nI, nI_add, pk_mul, pk_sub, nI_clamp, inB_nI, gd_true, bnd_def, nI_leI, nI_ltI, nI_eq, nI_mI, mI_nI, nle_T, nle_F, nlt_T, nlt_F, neq_T, neq_F, ↓reduceIte, Nat.add_zero, Nat.zero_add, Nat.mul_zero, Nat.reduceAdd, Nat.reduceMul, Nat.reduceSub, ob1_e, ob2_e, ob3_e, ob4_e, ob6_e]
theorem s_stuff (hG : G ≤ 6) (hM : M ≤ 5) (hD : RD G M th bk s nx rows kept c m rf mr) (x v : Int32) : ∃ r rf' c' s' nx' rows' m' mr' kept', f_X11_stuff (nI G) rf c (nI s) (nI nx) rows x v = some (r, rf', c', nI s', nI nx', rows') ∧ f_X12_stuff (nI G) (nI s) m mr kept x v = some (r, nI s', m', mr', kept') ∧ RD G M th bk s' nx' rows' kept' c' m' rf' mr' := by
  have hD0 := hD
  obtain ⟨d, dd, hC, hA, hd, hF⟩ := hD
  have hN := hC.1
  have hI := hC.2.1
  have m67 : m 67 = c 67 := hN 67 (by omega)
  rcases glove_or x hG with ⟨g, hg, rfl⟩ | ⟨q1, q2⟩
  · have mg : m (42 + g) = c (42 + g) := hN (42 + g) (by omega)
    rcases rng v 9 (by omega) with ⟨j, hj, rfl⟩ | h0 | ⟨h0, h9, h9'⟩
    · by_cases hs : c (42 + g) = nI j
      · refine ⟨mI 1, _, c, s, nx, rows, m, _, kept, ?_, ?_, hD0.ref 2 (by omega)⟩
        · simp (disch := omega) only [f_X11_stuff, b_X11_stuff_27, b_X11_stuff_0, hasGlove_y, stuffed_c, hs, refuse_c, neg_nI, lit_nI, nI_add, pk_mul, pk_sub, nI_clamp, inB_nI, gd_true, bnd_def, nI_leI, nI_ltI, nI_eq, nI_mI, mI_nI, nle_T, nle_F, nlt_T, nlt_F, neq_T, neq_F, ↓reduceIte, Nat.add_zero, Nat.zero_add, Nat.mul_zero, Nat.reduceAdd, Nat.reduceMul, Nat.reduceSub, ob1_e, ob2_e, ob3_e, ob4_e, ob6_e]
        · simp (disch := omega) only [f_X12_stuff, b_X12_stuff_60, b_X12_stuff_0, isGlove_y, in_c, mg, hs, isRefused_c, neg_nI, lit_nI, nI_add, pk_mul, pk_sub, nI_clamp, inB_nI, gd_true, bnd_def, nI_leI, nI_ltI, nI_eq, nI_mI, mI_nI, nle_T, nle_F, nlt_T, nlt_F, neq_T, neq_F, ↓reduceIte, Nat.add_zero, Nat.zero_add, Nat.mul_zero, Nat.reduceAdd, Nat.reduceMul, Nat.reduceSub, ob1_e, ob2_e, ob3_e, ob4_e, ob6_e]
      · by_cases h3 : nI 2 ≤ c 67
        · obtain ⟨s', nx', rows', kept', dd', k1, k2, k3, k4, k5, k6⟩ := keep_l hG hM hA hd hC
          refine ⟨c (42 + g), rf, upd (upd c 67 (c 67 - nI 2)) (42 + g) (nI j), s', nx', rows', upd (upd m (42 + g) (nI j)) 67 (c 67 - nI 2), mr, kept', ?_, ?_, d, dd', hC.act ?_ ?_ ?_ ?_, k3, k4, hF⟩
          · simp (disch := omega) only [f_X11_stuff, b_X11_stuff_27, b_X11_stuff_0, f_X9_pay, b_X9_pay_0, f_X9_setStuffed, b_X9_setStuffed_0, hasGlove_y, stuffed_c, coins_c, hs, h3, k1, neg_nI, lit_nI, nI_add, pk_mul, pk_sub, nI_clamp, inB_nI, gd_true, bnd_def, nI_leI, nI_ltI, nI_eq, nI_mI, mI_nI, nle_T, nle_F, nlt_T, nlt_F, neq_T, neq_F, ↓reduceIte, Nat.add_zero, Nat.zero_add, Nat.mul_zero, Nat.reduceAdd, Nat.reduceMul, Nat.reduceSub, ob1_e, ob2_e, ob3_e, ob4_e, ob6_e]
          · simp (disch := omega) only [f_X12_stuff, b_X12_stuff_60, b_X12_stuff_0, isGlove_y, in_c, mg, m67, hs, h3, k2, isRefused_n, upd_n, upd_y, neg_nI, lit_nI, nI_add, pk_mul, pk_sub, nI_clamp, inB_nI, gd_true, bnd_def, nI_leI, nI_ltI, nI_eq, nI_mI, mI_nI, nle_T, nle_F, nlt_T, nlt_F, neq_T, neq_F, ↓reduceIte, Nat.add_zero, Nat.zero_add, Nat.mul_zero, Nat.reduceAdd, Nat.reduceMul, Nat.reduceSub, ob1_e, ob2_e, ob3_e, ob4_e, ob6_e]
          · intro i hi
            by_cases e1 : i = 67
            · rw [upd_y e1, upd_n (by omega), upd_y e1]
            · by_cases e2 : i = 42 + g
              · rw [upd_n e1, upd_y e2, upd_y e2]
              · rw [upd_n e1, upd_n e2, upd_n e2, upd_n e1]
                exact hN i hi
          · refine ⟨fun i hi => ?_, fun q hq => ?_, ?_⟩
            · rw [upd_n (by omega), upd_n (by omega)]
              exact hI.1 i hi
            · rw [upd_n (by omega), upd_n (by omega)]
              exact hI.2.1 q hq
            · rw [upd_n (by omega), upd_n (by omega)]
              exact hI.2.2
          · rw [upd_n (by omega), upd_n (by omega)]
          · intro i hi
            rw [upd_n (by omega), upd_n (by omega)]
        · refine ⟨mI 1, _, c, s, nx, rows, m, _, kept, ?_, ?_, hD0.ref 3 (by omega)⟩
          · simp (disch := omega) only [f_X11_stuff, b_X11_stuff_27, b_X11_stuff_0, hasGlove_y, stuffed_c, coins_c, hs, h3, refuse_c, neg_nI, lit_nI, nI_add, pk_mul, pk_sub, nI_clamp, inB_nI, gd_true, bnd_def, nI_leI, nI_ltI, nI_eq, nI_mI, mI_nI, nle_T, nle_F, nlt_T, nlt_F, neq_T, neq_F, ↓reduceIte, Nat.add_zero, Nat.zero_add, Nat.mul_zero, Nat.reduceAdd, Nat.reduceMul, Nat.reduceSub, ob1_e, ob2_e, ob3_e, ob4_e, ob6_e]
          · simp (disch := omega) only [f_X12_stuff, b_X12_stuff_60, b_X12_stuff_0, isGlove_y, in_c, mg, m67, hs, h3, isRefused_c, neg_nI, lit_nI, nI_add, pk_mul, pk_sub, nI_clamp, inB_nI, gd_true, bnd_def, nI_leI, nI_ltI, nI_eq, nI_mI, mI_nI, nle_T, nle_F, nlt_T, nlt_F, neq_T, neq_F, ↓reduceIte, Nat.add_zero, Nat.zero_add, Nat.mul_zero, Nat.reduceAdd, Nat.reduceMul, Nat.reduceSub, ob1_e, ob2_e, ob3_e, ob4_e, ob6_e]
    · refine ⟨mI 1, _, c, s, nx, rows, m, _, kept, ?_, ?_, hD0.ref 1 (by omega)⟩
      · simp (disch := omega) only [f_X11_stuff, b_X11_stuff_27, b_X11_stuff_0, hasGlove_y, h0, refuse_c, neg_nI, lit_nI, nI_add, pk_mul, pk_sub, nI_clamp, inB_nI, gd_true, bnd_def, nI_leI, nI_ltI, nI_eq, nI_mI, mI_nI, nle_T, nle_F, nlt_T, nlt_F, neq_T, neq_F, ↓reduceIte, Nat.add_zero, Nat.zero_add, Nat.mul_zero, Nat.reduceAdd, Nat.reduceMul, Nat.reduceSub, ob1_e, ob2_e, ob3_e, ob4_e, ob6_e]
      · simp (disch := omega) only [f_X12_stuff, b_X12_stuff_60, b_X12_stuff_0, isGlove_y, in_lo (hi := nI 9) h0, isRefused_c, neg_nI, lit_nI, nI_add, pk_mul, pk_sub, nI_clamp, inB_nI, gd_true, bnd_def, nI_leI, nI_ltI, nI_eq, nI_mI, mI_nI, nle_T, nle_F, nlt_T, nlt_F, neq_T, neq_F, ↓reduceIte, Nat.add_zero, Nat.zero_add, Nat.mul_zero, Nat.reduceAdd, Nat.reduceMul, Nat.reduceSub, ob1_e, ob2_e, ob3_e, ob4_e, ob6_e]
    · refine ⟨mI 1, _, c, s, nx, rows, m, _, kept, ?_, ?_, hD0.ref 1 (by omega)⟩
      · simp (disch := omega) only [f_X11_stuff, b_X11_stuff_27, b_X11_stuff_0, hasGlove_y, h0, h9', refuse_c, neg_nI, lit_nI, nI_add, pk_mul, pk_sub, nI_clamp, inB_nI, gd_true, bnd_def, nI_leI, nI_ltI, nI_eq, nI_mI, mI_nI, nle_T, nle_F, nlt_T, nlt_F, neq_T, neq_F, ↓reduceIte, Nat.add_zero, Nat.zero_add, Nat.mul_zero, Nat.reduceAdd, Nat.reduceMul, Nat.reduceSub, ob1_e, ob2_e, ob3_e, ob4_e, ob6_e]
      · simp (disch := omega) only [f_X12_stuff, b_X12_stuff_60, b_X12_stuff_0, isGlove_y, in_hi (lo := nI 0) h9, isRefused_c, neg_nI, lit_nI, nI_add, pk_mul, pk_sub, nI_clamp, inB_nI, gd_true, bnd_def, nI_leI, nI_ltI, nI_eq, nI_mI, mI_nI, nle_T, nle_F, nlt_T, nlt_F, neq_T, neq_F, ↓reduceIte, Nat.add_zero, Nat.zero_add, Nat.mul_zero, Nat.reduceAdd, Nat.reduceMul, Nat.reduceSub, ob1_e, ob2_e, ob3_e, ob4_e, ob6_e]
  · refine ⟨mI 1, _, c, s, nx, rows, m, _, kept, ?_, ?_, hD0.ref 0 (by omega)⟩
    · simp (disch := omega) only [f_X11_stuff, b_X11_stuff_27, b_X11_stuff_0, q1, refuse_c, neg_nI, lit_nI, nI_add, pk_mul, pk_sub, nI_clamp, inB_nI, gd_true, bnd_def, nI_leI, nI_ltI, nI_eq, nI_mI, mI_nI, nle_T, nle_F, nlt_T, nlt_F, neq_T, neq_F, ↓reduceIte, Nat.add_zero, Nat.zero_add, Nat.mul_zero, Nat.reduceAdd, Nat.reduceMul, Nat.reduceSub, ob1_e, ob2_e, ob3_e, ob4_e, ob6_e]
    · simp (disch := omega) only [f_X12_stuff, b_X12_stuff_60, b_X12_stuff_0, q2, isRefused_c, neg_nI, lit_nI, nI_add, pk_mul, pk_sub, nI_clamp, inB_nI, gd_true, bnd_def, nI_leI, nI_ltI, nI_eq, nI_mI, mI_nI, nle_T, nle_F, nlt_T, nlt_F, neq_T, neq_F, ↓reduceIte, Nat.add_zero, Nat.zero_add, Nat.mul_zero, Nat.reduceAdd, Nat.reduceMul, Nat.reduceSub, ob1_e, ob2_e, ob3_e, ob4_e, ob6_e]
theorem s_swallow (hG : G ≤ 6) (hM : M ≤ 5) (hD : RD G M th bk s nx rows kept c m rf mr) : ∃ r rf' c' s' nx' rows' m' mr' kept', f_X11_swallow (nI G) rf c (nI s) (nI nx) rows = some (r, rf', c', nI s', nI nx', rows') ∧ f_X12_swallow (nI G) (nI s) m mr kept = some (r, nI s', m', mr', kept') ∧ RD G M th bk s' nx' rows' kept' c' m' rf' mr' := by
  have hD0 := hD
  obtain ⟨d, dd, hC, hA, hd, hF⟩ := hD
  have hN := hC.1
  have hI := hC.2.1
  have m67 : m 67 = c 67 := hN 67 (by omega)
  have m66 : m 66 = c 66 := hN 66 (by omega)
  by_cases g0 : G = 0
  · refine ⟨mI 1, _, c, s, nx, rows, m, _, kept, ?_, ?_, hD0.ref 0 (by omega)⟩
    · simp (disch := omega) only [f_X11_swallow, b_X11_swallow_0, noPeace_y g0, refuse_c, neg_nI, lit_nI, nI_add, pk_mul, pk_sub, nI_clamp, inB_nI, gd_true, bnd_def, nI_leI, nI_ltI, nI_eq, nI_mI, mI_nI, nle_T, nle_F, nlt_T, nlt_F, neq_T, neq_F, ↓reduceIte, Nat.add_zero, Nat.zero_add, Nat.mul_zero, Nat.reduceAdd, Nat.reduceMul, Nat.reduceSub, ob1_e, ob2_e, ob3_e, ob4_e, ob6_e]
    · simp (disch := omega) only [f_X12_swallow, b_X12_swallow_42, b_X12_swallow_0, isRefused_c, neg_nI, lit_nI, nI_add, pk_mul, pk_sub, nI_clamp, inB_nI, gd_true, bnd_def, nI_leI, nI_ltI, nI_eq, nI_mI, mI_nI, nle_T, nle_F, nlt_T, nlt_F, neq_T, neq_F, ↓reduceIte, Nat.add_zero, Nat.zero_add, Nat.mul_zero, Nat.reduceAdd, Nat.reduceMul, Nat.reduceSub, ob1_e, ob2_e, ob3_e, ob4_e, ob6_e]
  · by_cases hp : c 66 = nI 0
    · refine ⟨mI 1, _, c, s, nx, rows, m, _, kept, ?_, ?_, hD0.ref 2 (by omega)⟩
      · simp (disch := omega) only [f_X11_swallow, b_X11_swallow_0, noPeace_n, pride_c, hp, refuse_c, neg_nI, lit_nI, nI_add, pk_mul, pk_sub, nI_clamp, inB_nI, gd_true, bnd_def, nI_leI, nI_ltI, nI_eq, nI_mI, mI_nI, nle_T, nle_F, nlt_T, nlt_F, neq_T, neq_F, ↓reduceIte, Nat.add_zero, Nat.zero_add, Nat.mul_zero, Nat.reduceAdd, Nat.reduceMul, Nat.reduceSub, ob1_e, ob2_e, ob3_e, ob4_e, ob6_e]
      · simp (disch := omega) only [f_X12_swallow, b_X12_swallow_42, b_X12_swallow_0, m66, hp, isRefused_c, neg_nI, lit_nI, nI_add, pk_mul, pk_sub, nI_clamp, inB_nI, gd_true, bnd_def, nI_leI, nI_ltI, nI_eq, nI_mI, mI_nI, nle_T, nle_F, nlt_T, nlt_F, neq_T, neq_F, ↓reduceIte, Nat.add_zero, Nat.zero_add, Nat.mul_zero, Nat.reduceAdd, Nat.reduceMul, Nat.reduceSub, ob1_e, ob2_e, ob3_e, ob4_e, ob6_e]
    · by_cases h3 : nI 4 ≤ c 67
      · obtain ⟨s', nx', rows', kept', dd', k1, k2, k3, k4, k5, k6⟩ := keep_l hG hM hA hd hC
        refine ⟨c 66 - nI 1, rf, upd (upd c 67 (c 67 - nI 4)) 66 (c 66 - nI 1), s', nx', rows', upd (upd m 66 (c 66 - nI 1)) 67 (c 67 - nI 4), mr, kept', ?_, ?_, d, dd', hC.act ?_ (hI.cong hG fun i hi => ?_) ?_ ?_, k3, k4, hF⟩
        · simp (disch := omega) only [f_X11_swallow, b_X11_swallow_0, f_X9_pay, b_X9_pay_0, f_X9_setPride, b_X9_setPride_0, noPeace_n, pride_c, coins_c, hp, h3, k1, upd_n, upd_y, neg_nI, lit_nI, nI_add, pk_mul, pk_sub, nI_clamp, inB_nI, gd_true, bnd_def, nI_leI, nI_ltI, nI_eq, nI_mI, mI_nI, nle_T, nle_F, nlt_T, nlt_F, neq_T, neq_F, ↓reduceIte, Nat.add_zero, Nat.zero_add, Nat.mul_zero, Nat.reduceAdd, Nat.reduceMul, Nat.reduceSub, ob1_e, ob2_e, ob3_e, ob4_e, ob6_e]
        · simp (disch := omega) only [f_X12_swallow, b_X12_swallow_42, b_X12_swallow_0, m66, m67, hp, h3, k2, isRefused_n, upd_n, upd_y, neg_nI, lit_nI, nI_add, pk_mul, pk_sub, nI_clamp, inB_nI, gd_true, bnd_def, nI_leI, nI_ltI, nI_eq, nI_mI, mI_nI, nle_T, nle_F, nlt_T, nlt_F, neq_T, neq_F, ↓reduceIte, Nat.add_zero, Nat.zero_add, Nat.mul_zero, Nat.reduceAdd, Nat.reduceMul, Nat.reduceSub, ob1_e, ob2_e, ob3_e, ob4_e, ob6_e]
        · intro i hi
          by_cases e1 : i = 67
          · rw [upd_y e1, upd_n (by omega), upd_y e1]
          · by_cases e2 : i = 66
            · rw [upd_n e1, upd_y e2, upd_y e2]
            · rw [upd_n e1, upd_n e2, upd_n e2, upd_n e1]
              exact hN i hi
        · rw [upd_n (by omega), upd_n (by omega)]
        · rw [upd_n (by omega), upd_n (by omega)]
        · intro i hi
          rw [upd_n (by omega), upd_n (by omega)]
      · refine ⟨mI 1, _, c, s, nx, rows, m, _, kept, ?_, ?_, hD0.ref 3 (by omega)⟩
        · simp (disch := omega) only [f_X11_swallow, b_X11_swallow_0, noPeace_n, pride_c, coins_c, hp, h3, refuse_c, neg_nI, lit_nI, nI_add, pk_mul, pk_sub, nI_clamp, inB_nI, gd_true, bnd_def, nI_leI, nI_ltI, nI_eq, nI_mI, mI_nI, nle_T, nle_F, nlt_T, nlt_F, neq_T, neq_F, ↓reduceIte, Nat.add_zero, Nat.zero_add, Nat.mul_zero, Nat.reduceAdd, Nat.reduceMul, Nat.reduceSub, ob1_e, ob2_e, ob3_e, ob4_e, ob6_e]
        · simp (disch := omega) only [f_X12_swallow, b_X12_swallow_42, b_X12_swallow_0, m66, m67, hp, h3, isRefused_c, neg_nI, lit_nI, nI_add, pk_mul, pk_sub, nI_clamp, inB_nI, gd_true, bnd_def, nI_leI, nI_ltI, nI_eq, nI_mI, mI_nI, nle_T, nle_F, nlt_T, nlt_F, neq_T, neq_F, ↓reduceIte, Nat.add_zero, Nat.zero_add, Nat.mul_zero, Nat.reduceAdd, Nat.reduceMul, Nat.reduceSub, ob1_e, ob2_e, ob3_e, ob4_e, ob6_e]
theorem s_tear (hG : G ≤ 6) (hM : M ≤ 5) (hD : RD G M th bk s nx rows kept c m rf mr) (x : Int32) : ∃ r rf' c' s' nx' rows' m' mr' kept', f_X11_tear (nI M) rf c (nI s) (nI nx) rows x = some (r, rf', c', nI s', nI nx', rows') ∧ f_X12_tear (nI M) (nI s) m mr kept x = some (r, nI s', m', mr', kept') ∧ RD G M th bk s' nx' rows' kept' c' m' rf' mr' := by
  have hD0 := hD
  obtain ⟨d, dd, hC, hA, hd, hF⟩ := hD
  have hN := hC.1
  have hI := hC.2.1
  have m66 : m 66 = c 66 := hN 66 (by omega)
  rcases matter_or x (M := M) (by omega) with ⟨g, hg, rfl⟩ | ⟨q1, q2⟩
  · have mg : m (60 + g) = c (60 + g) := hN (60 + g) (by omega)
    by_cases hs : c (60 + g) = mI 1
    · refine ⟨mI 1, _, c, s, nx, rows, m, _, kept, ?_, ?_, hD0.ref 2 (by omega)⟩
      · simp (disch := omega) only [f_X11_tear, b_X11_tear_0, hasMatter_y, signers_c, hs, refuse_c, neg_nI, lit_nI, nI_add, pk_mul, pk_sub, nI_clamp, inB_nI, gd_true, bnd_def, nI_leI, nI_ltI, nI_eq, nI_mI, mI_nI, nle_T, nle_F, nlt_T, nlt_F, neq_T, neq_F, ↓reduceIte, Nat.add_zero, Nat.zero_add, Nat.mul_zero, Nat.reduceAdd, Nat.reduceMul, Nat.reduceSub, ob1_e, ob2_e, ob3_e, ob4_e, ob6_e]
      · simp (disch := omega) only [f_X12_tear, b_X12_tear_31, b_X12_tear_0, isMatter_y, mg, hs, isRefused_c, neg_nI, lit_nI, nI_add, pk_mul, pk_sub, nI_clamp, inB_nI, gd_true, bnd_def, nI_leI, nI_ltI, nI_eq, nI_mI, mI_nI, nle_T, nle_F, nlt_T, nlt_F, neq_T, neq_F, ↓reduceIte, Nat.add_zero, Nat.zero_add, Nat.mul_zero, Nat.reduceAdd, Nat.reduceMul, Nat.reduceSub, ob1_e, ob2_e, ob3_e, ob4_e, ob6_e]
    · obtain ⟨s', nx', rows', kept', dd', k1, k2, k3, k4, k5, k6⟩ := keep_l hG hM hA hd hC
      refine ⟨mn (nI 9) (c 66 + nI 1), rf, upd (upd c (60 + g) (mI 1)) 66 (mn (nI 9) (c 66 + nI 1)), s', nx', rows', upd (upd m (60 + g) (mI 1)) 66 (mn (nI 9) (c 66 + nI 1)), mr, kept', ?_, ?_, d, dd', hC.act ((hN.put _ _).put _ _) (hI.cong hG fun i hi => ?_) ?_ ?_, k3, k4, hF⟩
      · simp (disch := omega) only [f_X11_tear, b_X11_tear_0, f_X9_tearUp, b_X9_tearUp_0, f_X9_growProud, b_X9_growProud_0, hasMatter_y, signers_c, pride_c, hs, k1, upd_n, upd_y, neg_nI, lit_nI, nI_add, pk_mul, pk_sub, nI_clamp, inB_nI, gd_true, bnd_def, nI_leI, nI_ltI, nI_eq, nI_mI, mI_nI, nle_T, nle_F, nlt_T, nlt_F, neq_T, neq_F, ↓reduceIte, Nat.add_zero, Nat.zero_add, Nat.mul_zero, Nat.reduceAdd, Nat.reduceMul, Nat.reduceSub, ob1_e, ob2_e, ob3_e, ob4_e, ob6_e]
      · simp (disch := omega) only [f_X12_tear, b_X12_tear_31, b_X12_tear_0, isMatter_y, mg, m66, hs, k2, isRefused_n, upd_n, upd_y, neg_nI, lit_nI, nI_add, pk_mul, pk_sub, nI_clamp, inB_nI, gd_true, bnd_def, nI_leI, nI_ltI, nI_eq, nI_mI, mI_nI, nle_T, nle_F, nlt_T, nlt_F, neq_T, neq_F, ↓reduceIte, Nat.add_zero, Nat.zero_add, Nat.mul_zero, Nat.reduceAdd, Nat.reduceMul, Nat.reduceSub, ob1_e, ob2_e, ob3_e, ob4_e, ob6_e]
      · rw [upd_n (by omega), upd_n (by omega)]
      · rw [upd_n (by omega), upd_n (by omega)]
      · intro i hi
        rw [upd_n (by omega), upd_n (by omega)]
  · refine ⟨mI 1, _, c, s, nx, rows, m, _, kept, ?_, ?_, hD0.ref 0 (by omega)⟩
    · simp (disch := omega) only [f_X11_tear, b_X11_tear_0, q1, refuse_c, neg_nI, lit_nI, nI_add, pk_mul, pk_sub, nI_clamp, inB_nI, gd_true, bnd_def, nI_leI, nI_ltI, nI_eq, nI_mI, mI_nI, nle_T, nle_F, nlt_T, nlt_F, neq_T, neq_F, ↓reduceIte, Nat.add_zero, Nat.zero_add, Nat.mul_zero, Nat.reduceAdd, Nat.reduceMul, Nat.reduceSub, ob1_e, ob2_e, ob3_e, ob4_e, ob6_e]
    · simp (disch := omega) only [f_X12_tear, b_X12_tear_31, b_X12_tear_0, q2, isRefused_c, neg_nI, lit_nI, nI_add, pk_mul, pk_sub, nI_clamp, inB_nI, gd_true, bnd_def, nI_leI, nI_ltI, nI_eq, nI_mI, mI_nI, nle_T, nle_F, nlt_T, nlt_F, neq_T, neq_F, ↓reduceIte, Nat.add_zero, Nat.zero_add, Nat.mul_zero, Nat.reduceAdd, Nat.reduceMul, Nat.reduceSub, ob1_e, ob2_e, ob3_e, ob4_e, ob6_e]
theorem s_give (hG : G ≤ 6) (hM : M ≤ 5) (hD : RD G M th bk s nx rows kept c m rf mr) (x : Int32) : ∃ r rf' c' s' nx' rows' m' mr' kept', f_X11_give (nI G) rf c (nI s) (nI nx) rows x = some (r, rf', c', nI s', nI nx', rows') ∧ f_X12_give (nI G) (nI s) m mr kept x = some (r, nI s', m', mr', kept') ∧ RD G M th bk s' nx' rows' kept' c' m' rf' mr' := by
  have hD0 := hD
  obtain ⟨d, dd, hC, hA, hd, hF⟩ := hD
  have hN := hC.1
  have hI := hC.2.1
  have m67 : m 67 = c 67 := hN 67 (by omega)
  by_cases g0 : G = 0
  · refine ⟨mI 1, _, c, s, nx, rows, m, _, kept, ?_, ?_, hD0.ref 0 (by omega)⟩
    · simp (disch := omega) only [f_X11_give, b_X11_give_39, b_X11_give_0, noPeace_y g0, refuse_c, neg_nI, lit_nI, nI_add, pk_mul, pk_sub, nI_clamp, inB_nI, gd_true, bnd_def, nI_leI, nI_ltI, nI_eq, nI_mI, mI_nI, nle_T, nle_F, nlt_T, nlt_F, neq_T, neq_F, ↓reduceIte, Nat.add_zero, Nat.zero_add, Nat.mul_zero, Nat.reduceAdd, Nat.reduceMul, Nat.reduceSub, ob1_e, ob2_e, ob3_e, ob4_e, ob6_e]
    · simp (disch := omega) only [f_X12_give, b_X12_give_42, b_X12_give_37, b_X12_give_0, isRefused_c, neg_nI, lit_nI, nI_add, pk_mul, pk_sub, nI_clamp, inB_nI, gd_true, bnd_def, nI_leI, nI_ltI, nI_eq, nI_mI, mI_nI, nle_T, nle_F, nlt_T, nlt_F, neq_T, neq_F, ↓reduceIte, Nat.add_zero, Nat.zero_add, Nat.mul_zero, Nat.reduceAdd, Nat.reduceMul, Nat.reduceSub, ob1_e, ob2_e, ob3_e, ob4_e, ob6_e]
  · by_cases h1 : x < nI 1
    · refine ⟨mI 1, _, c, s, nx, rows, m, _, kept, ?_, ?_, hD0.ref 1 (by omega)⟩
      · simp (disch := omega) only [f_X11_give, b_X11_give_39, b_X11_give_0, noPeace_n, h1, refuse_c, neg_nI, lit_nI, nI_add, pk_mul, pk_sub, nI_clamp, inB_nI, gd_true, bnd_def, nI_leI, nI_ltI, nI_eq, nI_mI, mI_nI, nle_T, nle_F, nlt_T, nlt_F, neq_T, neq_F, ↓reduceIte, Nat.add_zero, Nat.zero_add, Nat.mul_zero, Nat.reduceAdd, Nat.reduceMul, Nat.reduceSub, ob1_e, ob2_e, ob3_e, ob4_e, ob6_e]
      · simp (disch := omega) only [f_X12_give, b_X12_give_42, b_X12_give_37, b_X12_give_0, in_lo (hi := nI 50) h1, isRefused_c, neg_nI, lit_nI, nI_add, pk_mul, pk_sub, nI_clamp, inB_nI, gd_true, bnd_def, nI_leI, nI_ltI, nI_eq, nI_mI, mI_nI, nle_T, nle_F, nlt_T, nlt_F, neq_T, neq_F, ↓reduceIte, Nat.add_zero, Nat.zero_add, Nat.mul_zero, Nat.reduceAdd, Nat.reduceMul, Nat.reduceSub, ob1_e, ob2_e, ob3_e, ob4_e, ob6_e]
    · by_cases h2 : nI 50 < x
      · refine ⟨mI 1, _, c, s, nx, rows, m, _, kept, ?_, ?_, hD0.ref 1 (by omega)⟩
        · simp (disch := omega) only [f_X11_give, b_X11_give_39, b_X11_give_0, noPeace_n, h1, h2, refuse_c, neg_nI, lit_nI, nI_add, pk_mul, pk_sub, nI_clamp, inB_nI, gd_true, bnd_def, nI_leI, nI_ltI, nI_eq, nI_mI, mI_nI, nle_T, nle_F, nlt_T, nlt_F, neq_T, neq_F, ↓reduceIte, Nat.add_zero, Nat.zero_add, Nat.mul_zero, Nat.reduceAdd, Nat.reduceMul, Nat.reduceSub, ob1_e, ob2_e, ob3_e, ob4_e, ob6_e]
        · simp (disch := omega) only [f_X12_give, b_X12_give_42, b_X12_give_37, b_X12_give_0, in_hi (lo := nI 1) h2, isRefused_c, neg_nI, lit_nI, nI_add, pk_mul, pk_sub, nI_clamp, inB_nI, gd_true, bnd_def, nI_leI, nI_ltI, nI_eq, nI_mI, mI_nI, nle_T, nle_F, nlt_T, nlt_F, neq_T, neq_F, ↓reduceIte, Nat.add_zero, Nat.zero_add, Nat.mul_zero, Nat.reduceAdd, Nat.reduceMul, Nat.reduceSub, ob1_e, ob2_e, ob3_e, ob4_e, ob6_e]
      · by_cases h3 : c 67 + x ≤ nI 999
        · obtain ⟨s', nx', rows', kept', dd', k1, k2, k3, k4, k5, k6⟩ := keep_l hG hM hA hd hC
          refine ⟨c 67 + x, rf, upd c 67 (c 67 + x), s', nx', rows', upd m 67 (c 67 + x), mr, kept', ?_, ?_, d, dd', hC.act (hN.put _ _) (hI.cong hG fun i hi => ?_) ?_ ?_, k3, k4, hF⟩
          · simp (disch := omega) only [f_X11_give, b_X11_give_39, b_X11_give_0, f_X9_pay, b_X9_pay_0, noPeace_n, coins_c, h1, h2, h3, k1, sub_negI, upd_y, neg_nI, lit_nI, nI_add, pk_mul, pk_sub, nI_clamp, inB_nI, gd_true, bnd_def, nI_leI, nI_ltI, nI_eq, nI_mI, mI_nI, nle_T, nle_F, nlt_T, nlt_F, neq_T, neq_F, ↓reduceIte, Nat.add_zero, Nat.zero_add, Nat.mul_zero, Nat.reduceAdd, Nat.reduceMul, Nat.reduceSub, ob1_e, ob2_e, ob3_e, ob4_e, ob6_e]
          · simp (disch := omega) only [f_X12_give, b_X12_give_42, b_X12_give_37, b_X12_give_0, in_y h1 h2, m67, h3, k2, isRefused_n, upd_y, neg_nI, lit_nI, nI_add, pk_mul, pk_sub, nI_clamp, inB_nI, gd_true, bnd_def, nI_leI, nI_ltI, nI_eq, nI_mI, mI_nI, nle_T, nle_F, nlt_T, nlt_F, neq_T, neq_F, ↓reduceIte, Nat.add_zero, Nat.zero_add, Nat.mul_zero, Nat.reduceAdd, Nat.reduceMul, Nat.reduceSub, ob1_e, ob2_e, ob3_e, ob4_e, ob6_e]
          · rw [upd_n (by omega)]
          · rw [upd_n (by omega)]
          · intro i hi
            rw [upd_n (by omega)]
        · refine ⟨mI 1, _, c, s, nx, rows, m, _, kept, ?_, ?_, hD0.ref 1 (by omega)⟩
          · simp (disch := omega) only [f_X11_give, b_X11_give_39, b_X11_give_0, noPeace_n, coins_c, h1, h2, h3, refuse_c, neg_nI, lit_nI, nI_add, pk_mul, pk_sub, nI_clamp, inB_nI, gd_true, bnd_def, nI_leI, nI_ltI, nI_eq, nI_mI, mI_nI, nle_T, nle_F, nlt_T, nlt_F, neq_T, neq_F, ↓reduceIte, Nat.add_zero, Nat.zero_add, Nat.mul_zero, Nat.reduceAdd, Nat.reduceMul, Nat.reduceSub, ob1_e, ob2_e, ob3_e, ob4_e, ob6_e]
          · simp (disch := omega) only [f_X12_give, b_X12_give_42, b_X12_give_37, b_X12_give_0, in_y h1 h2, m67, h3, isRefused_c, neg_nI, lit_nI, nI_add, pk_mul, pk_sub, nI_clamp, inB_nI, gd_true, bnd_def, nI_leI, nI_ltI, nI_eq, nI_mI, mI_nI, nle_T, nle_F, nlt_T, nlt_F, neq_T, neq_F, ↓reduceIte, Nat.add_zero, Nat.zero_add, Nat.mul_zero, Nat.reduceAdd, Nat.reduceMul, Nat.reduceSub, ob1_e, ob2_e, ob3_e, ob4_e, ob6_e]
end DE
end
section
section DF
variable {R : R6} {lh : Int32} {ll l0 l1 l2 l3 : Nat → Int32} {mh : Int32} {mc mv mk mt ms mu : Nat → Int32}
variable {G M s nx : Nat} {th ta tn mg mm bk rows kept c m rf mr : Nat → Int32}
theorem s_meets (hX : RiseX R lh ll l0 l1 l2 l3) (hY : RiseY R mh mc mv mk mt ms mu) (hG : G ≤ 6) (hM : M ≤ 5) (hh : ∀ g, g < G → mg (4 * g) = th g) (ha : ∀ g, g < G → mg (4 * g + 3) = ta g) (hn : ∀ k, k < M → mm (2 * k + 1) = tn k) (hD : RD G M th bk s nx rows kept c m rf mr) (lt st lt2 st2 : Nat → Int32) (x y : Int32) : ∃ r rf' lt' st' c' s' nx' rows' lt2' st2' m' mr' kept', f_X11_meets (nI G) (nI M) th ta tn lh ll l0 l1 l2 l3 rf lt st c (nI s) (nI nx) rows x y = some (r, rf', lt', st', c', nI s', nI nx', rows') ∧ f_X12_meets (nI G) (nI M) mh mc mv mk mt ms mu mg mm (nI s) lt2 st2 m mr kept x y = some (r, nI s', lt2', st2', m', mr', kept') ∧ RD G M th bk s' nx' rows' kept' c' m' rf' mr' := by
  have hD0 := hD
  obtain ⟨d, dd, hC, hA, hd, hF⟩ := hD
  have hN := hC.1
  have hI := hC.2.1
  have m67 : m 67 = c 67 := hN 67 (by omega)
  rcases glove_or x hG with ⟨g, hg, rfl⟩ | ⟨q1, q2⟩
  · rcases glove_or y hG with ⟨o, ho, rfl⟩ | ⟨q1, q2⟩
    · have g1 := hh g hg
      have g2 := hh o ho
      have m1 : m (54 + g) = c (54 + g) := hN (54 + g) (by omega)
      have m2 : m (54 + o) = c (54 + o) := hN (54 + o) (by omega)
      by_cases ht : th g = th o
      · refine ⟨mI 1, _, lt, st, c, s, nx, rows, lt2, st2, m, _, kept, ?_, ?_, hD0.ref 1 (by omega)⟩
        · simp (disch := omega) only [f_X11_meets, b_X11_meets_22, b_X11_meets_68, b_X11_meets_0, hasGlove_y, unlike_c, ht, refuse_c, neg_nI, lit_nI, nI_add, pk_mul, pk_sub, nI_clamp, inB_nI, gd_true, bnd_def, nI_leI, nI_ltI, nI_eq, nI_mI, mI_nI, nle_T, nle_F, nlt_T, nlt_F, neq_T, neq_F, ↓reduceIte, Nat.add_zero, Nat.zero_add, Nat.mul_zero, Nat.reduceAdd, Nat.reduceMul, Nat.reduceSub, ob1_e, ob2_e, ob3_e, ob4_e, ob6_e]
        · simp (disch := omega) only [f_X12_meets, b_X12_meets_70, b_X12_meets_17, b_X12_meets_50, b_X12_meets_0, isGlove_y, areTwo_c, g1, g2, ht, isRefused_c, neg_nI, lit_nI, nI_add, pk_mul, pk_sub, nI_clamp, inB_nI, gd_true, bnd_def, nI_leI, nI_ltI, nI_eq, nI_mI, mI_nI, nle_T, nle_F, nlt_T, nlt_F, neq_T, neq_F, ↓reduceIte, Nat.add_zero, Nat.zero_add, Nat.mul_zero, Nat.reduceAdd, Nat.reduceMul, Nat.reduceSub, ob1_e, ob2_e, ob3_e, ob4_e, ob6_e]
      · by_cases f1 : c (54 + g) = mI 1
        · by_cases f2 : c (54 + o) = mI 1
          · by_cases h3 : nI 1 ≤ c 67
            · obtain ⟨s', nx', rows', kept', dd', k1, k2, k3, k4, k5, k6⟩ := keep_l hG hM hA hd hC
              have hI2 : IV G th (upd c 67 (c 67 - nI 1)) := hI.cong hG fun i hi => by rw [upd_n (by omega)]
              obtain ⟨lt', st', c', lt2', st2', m', e1, e2, e3, e4, e5, e6⟩ := meet_l hX hY hG hM ha hn (hN.put 67 (c 67 - nI 1)) hI2 hg ho ht lt st lt2 st2
              have hp := pl_lt (a := g) (b := o) ⟨by omega, by omega⟩
              have e9 : m' (pl g o) = c' (pl g o) := e3 _ (by omega)
              refine ⟨c' (pl g o), rf, lt', st', c', s', nx', rows', lt2', st2', m', mr, kept', ?_, ?_, d, dd', hC.act e3 e4 ?_ ?_, k3, k4, hF⟩
              · simp (disch := omega) only [f_X11_meets, b_X11_meets_22, b_X11_meets_68, b_X11_meets_0, f_X9_pay, b_X9_pay_0, hasGlove_y, unlike_c, ht, hasMet_c, f1, f2, coins_c, h3, k1, e1, warmthOf_c, neg_nI, lit_nI, nI_add, pk_mul, pk_sub, nI_clamp, inB_nI, gd_true, bnd_def, nI_leI, nI_ltI, nI_eq, nI_mI, mI_nI, nle_T, nle_F, nlt_T, nlt_F, neq_T, neq_F, ↓reduceIte, Nat.add_zero, Nat.zero_add, Nat.mul_zero, Nat.reduceAdd, Nat.reduceMul, Nat.reduceSub, ob1_e, ob2_e, ob3_e, ob4_e, ob6_e]
              · simp (disch := omega) only [f_X12_meets, b_X12_meets_70, b_X12_meets_17, b_X12_meets_50, b_X12_meets_0, isGlove_y, areTwo_c, g1, g2, ht, isFree_c, m1, m2, f1, f2, m67, h3, k2, e2, e9, isRefused_n, pairAt_c, inB_pl, pl_clamp, neg_nI, lit_nI, nI_add, pk_mul, pk_sub, nI_clamp, inB_nI, gd_true, bnd_def, nI_leI, nI_ltI, nI_eq, nI_mI, mI_nI, nle_T, nle_F, nlt_T, nlt_F, neq_T, neq_F, ↓reduceIte, Nat.add_zero, Nat.zero_add, Nat.mul_zero, Nat.reduceAdd, Nat.reduceMul, Nat.reduceSub, ob1_e, ob2_e, ob3_e, ob4_e, ob6_e]
              · rw [e5 68 (by omega), upd_n (by omega)]
              · intro i hi
                rw [e6 i (by omega), upd_n (by omega)]
            · refine ⟨mI 1, _, lt, st, c, s, nx, rows, lt2, st2, m, _, kept, ?_, ?_, hD0.ref 3 (by omega)⟩
              · simp (disch := omega) only [f_X11_meets, b_X11_meets_22, b_X11_meets_68, b_X11_meets_0, hasGlove_y, unlike_c, ht, hasMet_c, f1, f2, coins_c, h3, refuse_c, neg_nI, lit_nI, nI_add, pk_mul, pk_sub, nI_clamp, inB_nI, gd_true, bnd_def, nI_leI, nI_ltI, nI_eq, nI_mI, mI_nI, nle_T, nle_F, nlt_T, nlt_F, neq_T, neq_F, ↓reduceIte, Nat.add_zero, Nat.zero_add, Nat.mul_zero, Nat.reduceAdd, Nat.reduceMul, Nat.reduceSub, ob1_e, ob2_e, ob3_e, ob4_e, ob6_e]
              · simp (disch := omega) only [f_X12_meets, b_X12_meets_70, b_X12_meets_17, b_X12_meets_50, b_X12_meets_0, isGlove_y, areTwo_c, g1, g2, ht, isFree_c, m1, m2, f1, f2, m67, h3, isRefused_c, neg_nI, lit_nI, nI_add, pk_mul, pk_sub, nI_clamp, inB_nI, gd_true, bnd_def, nI_leI, nI_ltI, nI_eq, nI_mI, mI_nI, nle_T, nle_F, nlt_T, nlt_F, neq_T, neq_F, ↓reduceIte, Nat.add_zero, Nat.zero_add, Nat.mul_zero, Nat.reduceAdd, Nat.reduceMul, Nat.reduceSub, ob1_e, ob2_e, ob3_e, ob4_e, ob6_e]
          · refine ⟨mI 1, _, lt, st, c, s, nx, rows, lt2, st2, m, _, kept, ?_, ?_, hD0.ref 2 (by omega)⟩
            · simp (disch := omega) only [f_X11_meets, b_X11_meets_22, b_X11_meets_68, b_X11_meets_0, hasGlove_y, unlike_c, ht, hasMet_c, f1, f2, refuse_c, neg_nI, lit_nI, nI_add, pk_mul, pk_sub, nI_clamp, inB_nI, gd_true, bnd_def, nI_leI, nI_ltI, nI_eq, nI_mI, mI_nI, nle_T, nle_F, nlt_T, nlt_F, neq_T, neq_F, ↓reduceIte, Nat.add_zero, Nat.zero_add, Nat.mul_zero, Nat.reduceAdd, Nat.reduceMul, Nat.reduceSub, ob1_e, ob2_e, ob3_e, ob4_e, ob6_e]
            · simp (disch := omega) only [f_X12_meets, b_X12_meets_70, b_X12_meets_17, b_X12_meets_50, b_X12_meets_0, isGlove_y, areTwo_c, g1, g2, ht, isFree_c, m1, m2, f1, f2, isRefused_c, neg_nI, lit_nI, nI_add, pk_mul, pk_sub, nI_clamp, inB_nI, gd_true, bnd_def, nI_leI, nI_ltI, nI_eq, nI_mI, mI_nI, nle_T, nle_F, nlt_T, nlt_F, neq_T, neq_F, ↓reduceIte, Nat.add_zero, Nat.zero_add, Nat.mul_zero, Nat.reduceAdd, Nat.reduceMul, Nat.reduceSub, ob1_e, ob2_e, ob3_e, ob4_e, ob6_e]
        · refine ⟨mI 1, _, lt, st, c, s, nx, rows, lt2, st2, m, _, kept, ?_, ?_, hD0.ref 2 (by omega)⟩
          · simp (disch := omega) only [f_X11_meets, b_X11_meets_22, b_X11_meets_68, b_X11_meets_0, hasGlove_y, unlike_c, ht, hasMet_c, f1, refuse_c, neg_nI, lit_nI, nI_add, pk_mul, pk_sub, nI_clamp, inB_nI, gd_true, bnd_def, nI_leI, nI_ltI, nI_eq, nI_mI, mI_nI, nle_T, nle_F, nlt_T, nlt_F, neq_T, neq_F, ↓reduceIte, Nat.add_zero, Nat.zero_add, Nat.mul_zero, Nat.reduceAdd, Nat.reduceMul, Nat.reduceSub, ob1_e, ob2_e, ob3_e, ob4_e, ob6_e]
          · simp (disch := omega) only [f_X12_meets, b_X12_meets_70, b_X12_meets_17, b_X12_meets_50, b_X12_meets_0, isGlove_y, areTwo_c, g1, g2, ht, isFree_c, m1, f1, isRefused_c, neg_nI, lit_nI, nI_add, pk_mul, pk_sub, nI_clamp, inB_nI, gd_true, bnd_def, nI_leI, nI_ltI, nI_eq, nI_mI, mI_nI, nle_T, nle_F, nlt_T, nlt_F, neq_T, neq_F, ↓reduceIte, Nat.add_zero, Nat.zero_add, Nat.mul_zero, Nat.reduceAdd, Nat.reduceMul, Nat.reduceSub, ob1_e, ob2_e, ob3_e, ob4_e, ob6_e]
    · refine ⟨mI 1, _, lt, st, c, s, nx, rows, lt2, st2, m, _, kept, ?_, ?_, hD0.ref 0 (by omega)⟩
      · simp (disch := omega) only [f_X11_meets, b_X11_meets_22, b_X11_meets_68, b_X11_meets_0, hasGlove_y, q1, refuse_c, neg_nI, lit_nI, nI_add, pk_mul, pk_sub, nI_clamp, inB_nI, gd_true, bnd_def, nI_leI, nI_ltI, nI_eq, nI_mI, mI_nI, nle_T, nle_F, nlt_T, nlt_F, neq_T, neq_F, ↓reduceIte, Nat.add_zero, Nat.zero_add, Nat.mul_zero, Nat.reduceAdd, Nat.reduceMul, Nat.reduceSub, ob1_e, ob2_e, ob3_e, ob4_e, ob6_e]
      · simp (disch := omega) only [f_X12_meets, b_X12_meets_70, b_X12_meets_17, b_X12_meets_50, b_X12_meets_0, isGlove_y, q2, isRefused_c, neg_nI, lit_nI, nI_add, pk_mul, pk_sub, nI_clamp, inB_nI, gd_true, bnd_def, nI_leI, nI_ltI, nI_eq, nI_mI, mI_nI, nle_T, nle_F, nlt_T, nlt_F, neq_T, neq_F, ↓reduceIte, Nat.add_zero, Nat.zero_add, Nat.mul_zero, Nat.reduceAdd, Nat.reduceMul, Nat.reduceSub, ob1_e, ob2_e, ob3_e, ob4_e, ob6_e]
  · refine ⟨mI 1, _, lt, st, c, s, nx, rows, lt2, st2, m, _, kept, ?_, ?_, hD0.ref 0 (by omega)⟩
    · simp (disch := omega) only [f_X11_meets, b_X11_meets_22, b_X11_meets_68, b_X11_meets_0, q1, refuse_c, neg_nI, lit_nI, nI_add, pk_mul, pk_sub, nI_clamp, inB_nI, gd_true, bnd_def, nI_leI, nI_ltI, nI_eq, nI_mI, mI_nI, nle_T, nle_F, nlt_T, nlt_F, neq_T, neq_F, ↓reduceIte, Nat.add_zero, Nat.zero_add, Nat.mul_zero, Nat.reduceAdd, Nat.reduceMul, Nat.reduceSub, ob1_e, ob2_e, ob3_e, ob4_e, ob6_e]
    · simp (disch := omega) only [f_X12_meets, b_X12_meets_70, b_X12_meets_17, b_X12_meets_50, b_X12_meets_0, q2, isRefused_c, neg_nI, lit_nI, nI_add, pk_mul, pk_sub, nI_clamp, inB_nI, gd_true, bnd_def, nI_leI, nI_ltI, nI_eq, nI_mI, mI_nI, nle_T, nle_F, nlt_T, nlt_F, neq_T, neq_F, ↓reduceIte, Nat.add_zero, Nat.zero_add, Nat.mul_zero, Nat.reduceAdd, Nat.reduceMul, Nat.reduceSub, ob1_e, ob2_e, ob3_e, ob4_e, ob6_e]
theorem days_l {N : Nat} (hG : G ≤ 6) (hM : M ≤ 5) (hh : ∀ g, g < G → mg (4 * g) = th g) (hN6 : N ≤ 60) : ∀ (j k n n' : Nat) (c bk : Nat → Int32) (s nx : Nat) (rows m kept : Nat → Int32) (d : Nat) (dd : Nat → Nat), k + j = N → j < n → j < n' → RC G M th bk d c m → RA G M th bk s nx rows kept dd → dd s = d → d + j ≤ 999 → ∃ c' bk' s' nx' rows' m' kept' dd', f_X11_days_53 (nI G) n rf c bk (nI s) (nI nx) rows (nI N) (nI k) = some (nI (d + j), rf, c', bk', nI s', nI nx', rows') ∧ f_X12_days_49 (nI G) mg n' (nI s) m mr kept (nI N) (nI k) = some (nI (d + j), nI s', m', mr, kept') ∧ RC G M th bk' (d + j) c' m' ∧ RA G M th bk' s' nx' rows' kept' dd' ∧ dd' s' = d + j := by
  intro j
  induction j with
  | zero =>
    intro k n n' c bk s nx rows m kept d dd hk h1 h2 hC hA hd h9
    obtain ⟨n, rfl⟩ : ∃ q, n = q + 1 := ⟨n - 1, by omega⟩
    obtain ⟨n', rfl⟩ : ∃ q, n' = q + 1 := ⟨n' - 1, by omega⟩
    have e1 : c 68 = nI d := hC.2.2.1.1
    have e2 : m 68 = nI d := by rw [hC.1 68 (by omega)]; exact e1
    refine ⟨c, bk, s, nx, rows, m, kept, dd, ?_, ?_, hC, hA, hd⟩
    · simp (disch := omega) only [f_X11_days_53, b_X11_days_53, day_c, e1, neg_nI, lit_nI, nI_add, pk_mul, pk_sub, nI_clamp, inB_nI, gd_true, bnd_def, nI_leI, nI_ltI, nI_eq, nI_mI, mI_nI, nle_T, nle_F, nlt_T, nlt_F, neq_T, neq_F, ↓reduceIte, Nat.add_zero, Nat.zero_add, Nat.mul_zero, Nat.reduceAdd, Nat.reduceMul, Nat.reduceSub, ob1_e, ob2_e, ob3_e, ob4_e, ob6_e]
    · simp (disch := omega) only [f_X12_days_49, b_X12_days_49, e2, neg_nI, lit_nI, nI_add, pk_mul, pk_sub, nI_clamp, inB_nI, gd_true, bnd_def, nI_leI, nI_ltI, nI_eq, nI_mI, mI_nI, nle_T, nle_F, nlt_T, nlt_F, neq_T, neq_F, ↓reduceIte, Nat.add_zero, Nat.zero_add, Nat.mul_zero, Nat.reduceAdd, Nat.reduceMul, Nat.reduceSub, ob1_e, ob2_e, ob3_e, ob4_e, ob6_e]
  | succ j ih =>
    intro k n n' c bk s nx rows m kept d dd hk h1 h2 hC hA hd h9
    obtain ⟨n, rfl⟩ : ∃ q, n = q + 1 := ⟨n - 1, by omega⟩
    obtain ⟨n', rfl⟩ : ∃ q, n' = q + 1 := ⟨n' - 1, by omega⟩
    obtain ⟨s1, nx1, rows1, kept1, dd1, k1, k2, k3, k4, k5, k6⟩ := keep_l hG hM hA hd hC
    obtain ⟨c2, bk2, m2, p1, p2, p3, p4⟩ := pass_l hG hM hh hC (by omega)
    have hA2 := (k3.pass k4 p4).next k5 k6 (show d ≤ d + 1 by omega) (by omega)
    obtain ⟨c', bk', s', nx', rows', m', kept', dd', r1, r2, r3, r4, r5⟩ := ih (k + 1) n n' c2 bk2 s1 nx1 rows1 m2 kept1 (d + 1) _ (by omega) (by omega) (by omega) p3 hA2 (by show (if s1 = s1 then d + 1 else dd1 s1) = d + 1; rw [if_pos rfl]) (by omega)
    rw [show d + 1 + j = d + (j + 1) by omega] at r1 r2 r3 r5
    refine ⟨c', bk', s', nx', rows', m', kept', dd', ?_, ?_, r3, r4, r5⟩
    · rw [← r1]
      simp (disch := omega) only [f_X11_days_53, b_X11_days_53, k1, p1, neg_nI, lit_nI, nI_add, pk_mul, pk_sub, nI_clamp, inB_nI, gd_true, bnd_def, nI_leI, nI_ltI, nI_eq, nI_mI, mI_nI, nle_T, nle_F, nlt_T, nlt_F, neq_T, neq_F, ↓reduceIte, Nat.add_zero, Nat.zero_add, Nat.mul_zero, Nat.reduceAdd, Nat.reduceMul, Nat.reduceSub, ob1_e, ob2_e, ob3_e, ob4_e, ob6_e]
    · rw [← r2]
      simp (disch := omega) only [f_X12_days_49, b_X12_days_49, k2, p2, neg_nI, lit_nI, nI_add, pk_mul, pk_sub, nI_clamp, inB_nI, gd_true, bnd_def, nI_leI, nI_ltI, nI_eq, nI_mI, mI_nI, nle_T, nle_F, nlt_T, nlt_F, neq_T, neq_F, ↓reduceIte, Nat.add_zero, Nat.zero_add, Nat.mul_zero, Nat.reduceAdd, Nat.reduceMul, Nat.reduceSub, ob1_e, ob2_e, ob3_e, ob4_e, ob6_e]
theorem s_days (hG : G ≤ 6) (hM : M ≤ 5) (hh : ∀ g, g < G → mg (4 * g) = th g) (hD : RD G M th bk s nx rows kept c m rf mr) (x : Int32) : ∃ r rf' c' bk' s' nx' rows' m' mr' kept', f_X11_days (nI G) rf c bk (nI s) (nI nx) rows x = some (r, rf', c', bk', nI s', nI nx', rows') ∧ f_X12_days (nI G) mg (nI s) m mr kept x = some (r, nI s', m', mr', kept') ∧ RD G M th bk' s' nx' rows' kept' c' m' rf' mr' := by
  have hD0 := hD
  obtain ⟨d, dd, hC, hA, hd, hF⟩ := hD
  have e1 : c 68 = nI d := hC.2.2.1.1
  have e2 : m 68 = nI d := by rw [hC.1 68 (by omega)]; exact e1
  have hd9 : d ≤ 999 := hC.2.2.1.2
  by_cases g0 : G = 0
  · refine ⟨mI 1, _, c, bk, s, nx, rows, m, _, kept, ?_, ?_, hD0.ref 0 (by omega)⟩
    · simp (disch := omega) only [f_X11_days, b_X11_days_24, b_X11_days_53, b_X11_days_0, noPeace_y g0, refuse_c, neg_nI, lit_nI, nI_add, pk_mul, pk_sub, nI_clamp, inB_nI, gd_true, bnd_def, nI_leI, nI_ltI, nI_eq, nI_mI, mI_nI, nle_T, nle_F, nlt_T, nlt_F, neq_T, neq_F, ↓reduceIte, Nat.add_zero, Nat.zero_add, Nat.mul_zero, Nat.reduceAdd, Nat.reduceMul, Nat.reduceSub, ob1_e, ob2_e, ob3_e, ob4_e, ob6_e]
    · simp (disch := omega) only [f_X12_days, b_X12_days_49, b_X12_days_39, b_X12_days_0, isRefused_c, neg_nI, lit_nI, nI_add, pk_mul, pk_sub, nI_clamp, inB_nI, gd_true, bnd_def, nI_leI, nI_ltI, nI_eq, nI_mI, mI_nI, nle_T, nle_F, nlt_T, nlt_F, neq_T, neq_F, ↓reduceIte, Nat.add_zero, Nat.zero_add, Nat.mul_zero, Nat.reduceAdd, Nat.reduceMul, Nat.reduceSub, ob1_e, ob2_e, ob3_e, ob4_e, ob6_e]
  · rcases rng x 60 (by omega) with ⟨j, hj, rfl⟩ | h0 | ⟨h0, h9, h9'⟩
    · by_cases j0 : j = 0
      · refine ⟨mI 1, _, c, bk, s, nx, rows, m, _, kept, ?_, ?_, hD0.ref 1 (by omega)⟩
        · simp (disch := omega) only [f_X11_days, b_X11_days_24, b_X11_days_53, b_X11_days_0, noPeace_n, refuse_c, neg_nI, lit_nI, nI_add, pk_mul, pk_sub, nI_clamp, inB_nI, gd_true, bnd_def, nI_leI, nI_ltI, nI_eq, nI_mI, mI_nI, nle_T, nle_F, nlt_T, nlt_F, neq_T, neq_F, ↓reduceIte, Nat.add_zero, Nat.zero_add, Nat.mul_zero, Nat.reduceAdd, Nat.reduceMul, Nat.reduceSub, ob1_e, ob2_e, ob3_e, ob4_e, ob6_e]
        · simp (disch := omega) only [f_X12_days, b_X12_days_49, b_X12_days_39, b_X12_days_0, in_lo (x := nI j) (lo := nI 1) (hi := nI 60) (nI_lt (by omega) (by omega)), isRefused_c, neg_nI, lit_nI, nI_add, pk_mul, pk_sub, nI_clamp, inB_nI, gd_true, bnd_def, nI_leI, nI_ltI, nI_eq, nI_mI, mI_nI, nle_T, nle_F, nlt_T, nlt_F, neq_T, neq_F, ↓reduceIte, Nat.add_zero, Nat.zero_add, Nat.mul_zero, Nat.reduceAdd, Nat.reduceMul, Nat.reduceSub, ob1_e, ob2_e, ob3_e, ob4_e, ob6_e]
      · have i1 : f_X12_in (nI j) (nI 1) (nI 60) = some (nI 1) := in_y (nI_nlt (by omega) (by omega)) (nI_nlt (by omega) (by omega))
        by_cases h99 : d + j ≤ 999
        · obtain ⟨c', bk', s', nx', rows', m', kept', dd', r1, r2, r3, r4, r5⟩ := days_l (rf := rf) (mr := mr) (N := j) hG hM hh hj j 0 fu fu c bk s nx rows m kept d dd (by omega) (by have := fu_le; omega) (by have := fu_le; omega) hC hA hd h99
          refine ⟨nI (d + j), rf, c', bk', s', nx', rows', m', mr, kept', ?_, ?_, d + j, dd', r3, r4, r5, hF⟩
          · rw [← r1]
            simp (disch := omega) only [f_X11_days, b_X11_days_24, b_X11_days_53, b_X11_days_0, noPeace_n, day_c, e1, neg_nI, lit_nI, nI_add, pk_mul, pk_sub, nI_clamp, inB_nI, gd_true, bnd_def, nI_leI, nI_ltI, nI_eq, nI_mI, mI_nI, nle_T, nle_F, nlt_T, nlt_F, neq_T, neq_F, ↓reduceIte, Nat.add_zero, Nat.zero_add, Nat.mul_zero, Nat.reduceAdd, Nat.reduceMul, Nat.reduceSub, ob1_e, ob2_e, ob3_e, ob4_e, ob6_e]
          · rw [← r2]
            simp (disch := omega) only [f_X12_days, b_X12_days_49, b_X12_days_39, b_X12_days_0, f_X12_areDays, b_X12_areDays_0, i1, e2, isRefused_n, neg_nI, lit_nI, nI_add, pk_mul, pk_sub, nI_clamp, inB_nI, gd_true, bnd_def, nI_leI, nI_ltI, nI_eq, nI_mI, mI_nI, nle_T, nle_F, nlt_T, nlt_F, neq_T, neq_F, ↓reduceIte, Nat.add_zero, Nat.zero_add, Nat.mul_zero, Nat.reduceAdd, Nat.reduceMul, Nat.reduceSub, ob1_e, ob2_e, ob3_e, ob4_e, ob6_e]
        · refine ⟨mI 1, _, c, bk, s, nx, rows, m, _, kept, ?_, ?_, hD0.ref 4 (by omega)⟩
          · simp (disch := omega) only [f_X11_days, b_X11_days_24, b_X11_days_53, b_X11_days_0, noPeace_n, day_c, e1, refuse_c, neg_nI, lit_nI, nI_add, pk_mul, pk_sub, nI_clamp, inB_nI, gd_true, bnd_def, nI_leI, nI_ltI, nI_eq, nI_mI, mI_nI, nle_T, nle_F, nlt_T, nlt_F, neq_T, neq_F, ↓reduceIte, Nat.add_zero, Nat.zero_add, Nat.mul_zero, Nat.reduceAdd, Nat.reduceMul, Nat.reduceSub, ob1_e, ob2_e, ob3_e, ob4_e, ob6_e]
          · simp (disch := omega) only [f_X12_days, b_X12_days_49, b_X12_days_39, b_X12_days_0, f_X12_areDays, b_X12_areDays_0, i1, e2, isRefused_c, neg_nI, lit_nI, nI_add, pk_mul, pk_sub, nI_clamp, inB_nI, gd_true, bnd_def, nI_leI, nI_ltI, nI_eq, nI_mI, mI_nI, nle_T, nle_F, nlt_T, nlt_F, neq_T, neq_F, ↓reduceIte, Nat.add_zero, Nat.zero_add, Nat.mul_zero, Nat.reduceAdd, Nat.reduceMul, Nat.reduceSub, ob1_e, ob2_e, ob3_e, ob4_e, ob6_e]
    · have h1 : x < nI 1 := by
        rw [lt32] at h0 ⊢
        have a0 : (nI 0).toInt = 0 := by decide
        have a1 : (nI 1).toInt = 1 := by decide
        omega
      refine ⟨mI 1, _, c, bk, s, nx, rows, m, _, kept, ?_, ?_, hD0.ref 1 (by omega)⟩
      · simp (disch := omega) only [f_X11_days, b_X11_days_24, b_X11_days_53, b_X11_days_0, noPeace_n, h1, refuse_c, neg_nI, lit_nI, nI_add, pk_mul, pk_sub, nI_clamp, inB_nI, gd_true, bnd_def, nI_leI, nI_ltI, nI_eq, nI_mI, mI_nI, nle_T, nle_F, nlt_T, nlt_F, neq_T, neq_F, ↓reduceIte, Nat.add_zero, Nat.zero_add, Nat.mul_zero, Nat.reduceAdd, Nat.reduceMul, Nat.reduceSub, ob1_e, ob2_e, ob3_e, ob4_e, ob6_e]
      · simp (disch := omega) only [f_X12_days, b_X12_days_49, b_X12_days_39, b_X12_days_0, in_lo (hi := nI 60) h1, isRefused_c, neg_nI, lit_nI, nI_add, pk_mul, pk_sub, nI_clamp, inB_nI, gd_true, bnd_def, nI_leI, nI_ltI, nI_eq, nI_mI, mI_nI, nle_T, nle_F, nlt_T, nlt_F, neq_T, neq_F, ↓reduceIte, Nat.add_zero, Nat.zero_add, Nat.mul_zero, Nat.reduceAdd, Nat.reduceMul, Nat.reduceSub, ob1_e, ob2_e, ob3_e, ob4_e, ob6_e]
    · have h1 : ¬ x < nI 1 := by
        rw [lt32] at h9 ⊢
        have a0 : (nI 60).toInt = 60 := by decide
        have a1 : (nI 1).toInt = 1 := by decide
        omega
      refine ⟨mI 1, _, c, bk, s, nx, rows, m, _, kept, ?_, ?_, hD0.ref 1 (by omega)⟩
      · simp (disch := omega) only [f_X11_days, b_X11_days_24, b_X11_days_53, b_X11_days_0, noPeace_n, h1, h9', refuse_c, neg_nI, lit_nI, nI_add, pk_mul, pk_sub, nI_clamp, inB_nI, gd_true, bnd_def, nI_leI, nI_ltI, nI_eq, nI_mI, mI_nI, nle_T, nle_F, nlt_T, nlt_F, neq_T, neq_F, ↓reduceIte, Nat.add_zero, Nat.zero_add, Nat.mul_zero, Nat.reduceAdd, Nat.reduceMul, Nat.reduceSub, ob1_e, ob2_e, ob3_e, ob4_e, ob6_e]
      · simp (disch := omega) only [f_X12_days, b_X12_days_49, b_X12_days_39, b_X12_days_0, in_hi (lo := nI 1) h9, isRefused_c, neg_nI, lit_nI, nI_add, pk_mul, pk_sub, nI_clamp, inB_nI, gd_true, bnd_def, nI_leI, nI_ltI, nI_eq, nI_mI, mI_nI, nle_T, nle_F, nlt_T, nlt_F, neq_T, neq_F, ↓reduceIte, Nat.add_zero, Nat.zero_add, Nat.mul_zero, Nat.reduceAdd, Nat.reduceMul, Nat.reduceSub, ob1_e, ob2_e, ob3_e, ob4_e, ob6_e]
end DF
end
