/-! the reference goes on: numbers, the whole -/
section D80
variable {sa sv d N : Nat} {m : am_M} {b : Nat → Nat} {n i : Nat}
end D80
