/-! the ends of the reference's assignments and advances -/
section R89
variable {sa sv d N T n i B r : Nat} {m m1 : am_M} {b : Nat → Nat} {s s' : Nat → Int32} {q q' : Nat → Int64} {σ : Er ⊕ Nat} {v0 v1 v2 v3 v4 v5 : Int32}
end R89
