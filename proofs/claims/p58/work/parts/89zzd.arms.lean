/-! the law's loop: what holds between two calls; how an arm ends -/
/-- a handler's number for the exception -/
def HC (g : Nat → am_M → Option am_R) (E : Option Nat) (c : Nat) : Prop := (E = none ∧ c = 0) ∨ ∃ e, E = some e ∧ 0 < c ∧ c < 3 ∧ ∀ m, g e m = some (.inl (some (.int (nI c))), m)
section I89
variable {sa sv N b L C S n c : Nat} {m m1 m' : am_M} {X X' : TX} {P : Nat → Nat → Prop} {E : Option Nat} {v : Int32} {w : Int64} {r0 W : Option am_R} {g : Nat → am_M → Option am_R} {R : am_M → Option am_R}
theorem XF.lo {a k : Nat} (h : XF N a k) : N ≤ a := h.1
theorem HC.lt (h : HC g E c) : c < 3 := by
  rcases h with h | ⟨_, _, _, h, _⟩
  · omega
  · exact h
end I89
section J89
variable {sa sv N b L C S n : Nat} {m : am_M} {X : TX} {W : Option am_R} {R : am_M → Option am_R}
end J89
