/-! the best day: the reference -/
section R68
variable {sa sv d N o B : Nat} {m : am_M} {s : Nat → Int32} {q : Nat → Int64}
end R68
