/-! the statements one by one: the reference -/
section R89
variable {sa sv d N T n B : Nat} {b : Nat → Nat}
end R89
