/-! what the told peace gives to the other theorems -/
section TD
variable {G M : Nat} {pd cn : Int32} {th tf ts ta tw tn mr mg mm : Nat → Int32}
theorem cnt_ex {a : Nat → Int32} {h : Int32} : ∀ k, 0 < cnt a h k → ∃ b, b < k ∧ a b = h
  | 0, q => absurd q (by show ¬ 0 < 0; omega)
  | k + 1, q => by
    by_cases e : a k = h
    · exact ⟨k, by omega, e⟩
    · rw [cnt_n e] at q
      obtain ⟨b, hb, eb⟩ := cnt_ex k q
      exact ⟨b, by omega, eb⟩
theorem TO.h01 (h : TO G M pd cn th tf ts ta tw tn mr mg mm) : ∀ g, g < G → th g = nI 0 ∨ th g = nI 1 := by
  intro g hg
  obtain ⟨x, hx, e⟩ := (h.1.2.2.2.2.1 g hg).1.2
  have : x = 0 ∨ x = 1 := by omega
  rcases this with rfl | rfl
  · exact Or.inl e
  · exact Or.inr e
theorem TO.hex (h : TO G M pd cn th tf ts ta tw tn mr mg mm) : (∃ b, b < G ∧ th b = nI 0) ∧ ∃ b, b < G ∧ th b = nI 1 := ⟨cnt_ex G h.2.1, cnt_ex G h.2.2⟩
theorem TO.hh (h : TO G M pd cn th tf ts ta tw tn mr mg mm) : ∀ g, g < G → mg (4 * g) = th g := fun g hg => (h.1.2.2.2.2.1 g hg).1.1
theorem TO.hf (h : TO G M pd cn th tf ts ta tw tn mr mg mm) : ∀ g, g < G → mg (4 * g + 1) = tf g := fun g hg => (h.1.2.2.2.2.1 g hg).2.1.1
theorem TO.hs (h : TO G M pd cn th tf ts ta tw tn mr mg mm) : ∀ g, g < G → mg (4 * g + 2) = ts g := fun g hg => (h.1.2.2.2.2.1 g hg).2.2.1.1
theorem TO.ha (h : TO G M pd cn th tf ts ta tw tn mr mg mm) : ∀ g, g < G → mg (4 * g + 3) = ta g := fun g hg => (h.1.2.2.2.2.1 g hg).2.2.2.1
theorem TO.hw (h : TO G M pd cn th tf ts ta tw tn mr mg mm) : ∀ m, m < M → mm (2 * m) = tw m ∧ mm (2 * m + 1) = tn m := fun m hm => ⟨(h.1.2.2.2.2.2 m hm).1.1, (h.1.2.2.2.2.2 m hm).2.1⟩
theorem TO.hw9 (h : TO G M pd cn th tf ts ta tw tn mr mg mm) : ∀ m, m < M → ∃ x, x ≤ 9 ∧ tw m = nI x := fun m hm => (h.1.2.2.2.2.2 m hm).1.2
theorem TO.hf9 (h : TO G M pd cn th tf ts ta tw tn mr mg mm) : ∀ g, g < G → ∃ x, x ≤ 9 ∧ tf g = nI x := fun g hg => (h.1.2.2.2.2.1 g hg).2.1.2
theorem s_lawH {N : Nat} {lh : Int32} (hN : N ≤ 4) (hh : HL N lh) (v : Int32) : ∃ r h', f_X11_law (nI N) lh v = some (r, h') ∧ f_X12_law (nI N) lh v = some (r, h') ∧ HL N h' := by
  obtain ⟨r, h', e1, e2, e3⟩ := s_law hN lh v
  refine ⟨r, h', e1, e2, ?_⟩
  rcases e3 with rfl | rfl | ⟨j, hj, rfl⟩
  · exact hh
  · exact Or.inl rfl
  · exact Or.inr ⟨j, hj, rfl⟩
theorem HL.up {N N' : Nat} {lh : Int32} (h : HL N lh) (hN : N ≤ N') : HL N' lh := by
  rcases h with h | ⟨k, hk, e⟩
  · exact Or.inl h
  · exact Or.inr ⟨k, by omega, e⟩
end TD
