/-! the reference answers: next reversion, first open, dearest, richest, payable, lines -/
theorem ea_lit (t c n : Int32) : ea_ t c n = if c ≤ t then n else if n = -1 then c else if n ≤ c then n else c := by
  unfold ea_
  by_cases h : c ≤ t
  · rw [if_neg (fun z => Int32.not_lt.mpr h z.1), if_pos h]
  · rw [if_neg h]
    by_cases h1 : n = -1
    · rw [if_pos ⟨Int32.not_le.mp h, Or.inl h1⟩, if_pos h1]
    · rw [if_neg h1]
      by_cases h2 : n ≤ c
      · rw [if_neg (by rintro ⟨-, z | z⟩; exact h1 z; exact Int32.not_lt.mpr h2 z), if_pos h2]
      · rw [if_pos ⟨Int32.not_le.mp h, Or.inr (Int32.not_le.mp h2)⟩, if_neg h2]
theorem pay_eq (s : Nat → Int32) (q : Nat → Int64) : ∀ n, msk_ (paid_ s q) n = pay_ s q n := by
  intro n
  induction n with
  | zero => rfl
  | succ n ih =>
    show msk_ (paid_ s q) n ||| (bif paid_ s q n then 1 else 0) * 2 ^ n = bif paid_ s q n then pay_ s q n ||| 2 ^ n else pay_ s q n
    rw [ih]
    cases paid_ s q n
    · rw [cond_false, cond_false, Nat.zero_mul, Nat.or_zero]
    · rw [cond_true, cond_true, Nat.one_mul]
section R51
variable {sa sv d N B : Nat} {m : am_M} {s : Nat → Int32} {q : Nat → Int64}
end R51
