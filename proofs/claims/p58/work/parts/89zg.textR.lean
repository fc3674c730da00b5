/-! a text is read, a text amends (reference), whole -/
section R89
variable {sa sv d N n B : Nat} {X : TX} {m m' : am_M}
end R89
