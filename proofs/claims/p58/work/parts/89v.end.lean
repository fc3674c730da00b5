/-! the class's loop ends at the end of the text -/
section I89
variable {sa sv : Nat} {N o T n B : Nat} {b : Nat → Nat}
theorem CT.kT {m : am_M} {i : Nat} (h : CT m N b n T i) : Kd b n T = 0 := by
  unfold Kd
  rw [if_neg (by have := h.2.2.2.1; omega)]
end I89
