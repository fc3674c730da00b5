/-! the amount that recoups an advance: the class -/
theorem DX.q {N a k : Nat} (h : DQ N a k) : DX N a k := Or.inr h
section R69
variable {sa sv d N o B : Nat} {m : am_M} {s : Nat → Int32} {q : Nat → Int64}
end R69
