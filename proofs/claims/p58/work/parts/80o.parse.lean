/-! shares: the reference, all of them -/
section D80
variable {sa sv d N : Nat} {m : am_M} {b : Nat → Nat} {n : Nat} {σ : Er ⊕ Nat} {s : Nat → Int32} {q : Nat → Int64} {l : List (Nat × Nat)}
end D80
