/-! a text is read, a text amends (reference) -/
section R89
variable {sa sv d N n B : Nat} {X : TX} {b : Nat → Nat} {m m' : am_M} {σ : Er ⊕ Nat} {s a : Nat → Int32} {q c : Nat → Int64}
end R89
