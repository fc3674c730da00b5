/-! bytes are fed and cut: the reference -/
section R89
variable {sa sv d N n B : Nat} {X : TX} {m m' : am_M} {b : Nat → Nat}
end R89
