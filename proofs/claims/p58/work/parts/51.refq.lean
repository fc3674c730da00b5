/-! the reference answers: its reading methods, whole -/
theorem tr_t : tr_ true = nI 1 := rfl
theorem tr_f : tr_ false = nI 0 := rfl
section R51
variable {sa sv d N B : Nat} {m : am_M} {s : Nat → Int32} {q : Nat → Int64}
end R51
