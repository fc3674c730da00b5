/-! the reference books: what is open, and the lines -/
section R72
variable {sa sv d N : Nat} {m : am_M}
end R72
