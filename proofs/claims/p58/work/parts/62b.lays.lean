/-! the reference divides an income: the whole -/
section R62
variable {sa sv d N : Nat} {m : am_M} {s : Nat → Int32} {q : Nat → Int64}
end R62
