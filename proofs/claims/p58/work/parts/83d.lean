/-! a split more, a source more: the reference -/
section P83
variable {sa sv d N o B : Nat} {m : am_M} {s : Nat → Int32} {q : Nat → Int64} {L : List (Nat × Nat)}
end P83
