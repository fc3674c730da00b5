/-! the reference closes a period: the whole -/
section R79
variable {sa sv d N B : Nat} {m : am_M} {s : Nat → Int32} {q : Nat → Int64}
end R79
