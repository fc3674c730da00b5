/-! undo, save, restore, what was told: the reference -/
section R89
variable {sa sv d N n B u : Nat} {X : TX} {m m' : am_M} {s s' : Nat → Int32} {q q' : Nat → Int64}
end R89
