/-! income, pass, revert, setLeast, close: the reference's calls -/
section R89
variable {sa sv d N n B : Nat} {X : TX} {m m' : am_M} {s : Nat → Int32} {q : Nat → Int64}
end R89
