/-! the text is read: its two loops, whole -/
section I89
variable {sa sv d N o T n B : Nat} {b : Nat → Nat} {s : Nat → Int32} {q : Nat → Int64} {m : am_M}
theorem XF.a7 {N a k : Nat} (h : a = N + 7) (h2 : 2 ≤ k) : XF N a k := ⟨by omega, Or.inr (Or.inr (Or.inr (Or.inr (Or.inr (Or.inr (Or.inr (Or.inr (Or.inr (Or.inr (Or.inr (Or.inr (Or.inl (by omega)))))))))))))⟩
def P7 (N a k : Nat) : Prop := a = N + 7 ∧ 2 ≤ k
def m109 (m : am_M) (N o : Nat) : am_M := sr_ (sr_ m (N + 7) 2 o) (N + 7) 3 (o + 1)
theorem m109_fr : Fr (P7 N) m (m109 m N o) := ((Fr.refl _ _).sr ⟨rfl, by omega⟩).sr ⟨rfl, by omega⟩
end I89
section R89
variable {sa sv d N n B : Nat} {b : Nat → Nat} {s : Nat → Int32} {q : Nat → Int64} {m : am_M}
end R89
