/-! the reference's steps in a text: own words, names, signs, words, numbers -/
theorem gb_or {α : Type} {p r : Prop} {x y : Option α} : gb_ p x (gb_ r x y) = gb_ (p ∨ r) x y := by
  by_cases h : p
  · rw [gb_pos h, gb_pos (Or.inl h)]
  · rw [gb_neg h]
    by_cases h2 : r
    · rw [gb_pos h2, gb_pos (Or.inr h2)]
    · rw [gb_neg h2, gb_neg (fun z => z.elim h h2)]
section D80
variable {sa sv d N : Nat} {m : am_M} {b : Nat → Nat} {n : Nat} {σ : Er ⊕ Nat}
end D80
