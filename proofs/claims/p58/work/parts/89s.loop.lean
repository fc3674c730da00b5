/-! the statements one by one: the class -/
noncomputable def sLp (b : Nat → Nat) (n : Nat) : Nat → Nat → Nat → (Nat → Int32) → (Nat → Int64) → Er ⊕ (Nat × (Nat × ((Nat → Int32) × (Nat → Int64))))
  | 0, c, i, s, q => .inr (i, c, s, q)
  | f + 1, c, i, s, q => if Kd b n i = 0 then .inr (i, c, s, q) else eb (sST s q b n i) fun x => sLp b n f (c + 1) x.1 x.2.1 x.2.2
section I89
variable {sa sv d N o T n B : Nat} {b : Nat → Nat}
end I89
