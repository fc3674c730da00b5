/-! the class books an income: book -/
section R76
variable {sa sv d N o B : Nat} {m : am_M} {s : Nat → Int32} {q : Nat → Int64}
theorem LF.cpy {m m' : am_M} {a b : Nat} {l : List Ln} {g : Nat → Nat} (h : LF m a l g) (hl : l.length ≤ 64) (hk : ∀ k, k < 256 → gi_ m' b k = gi_ m a k) : LF m' b l g := fun i x hx => by
  have := (List.getElem?_eq_some_iff.mp hx).1
  rw [hk _ (by omega), hk _ (by omega), hk _ (by omega), hk _ (by omega)]
  exact h i x hx
end R76
