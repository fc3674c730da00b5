/-! the reference books: what came -/
section R72
variable {sa sv d N : Nat} {m : am_M}
end R72
