/-! the reference lets a line of an income withhold -/
section R64
variable {sa sv d N : Nat} {m : am_M} {s : Nat → Int32} {q : Nat → Int64}
theorem min_leN {a b : Nat} : (if b ≤ a then nI b else nI a) = nI (min a b) := by
  by_cases h : b ≤ a
  · rw [if_pos h, Nat.min_eq_right h]
  · rw [if_neg h, Nat.min_eq_left (by omega)]
end R64
