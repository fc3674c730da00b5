/-! the reference books: what grew and came back -/
def bD2 (G R : Nat → Nat) (i k : Nat) : Nat := if k < 10 then (if k < i then G k else 0) else if k < 50 then (if (k - 10) % 4 = 2 ∧ (k - 10) / 4 < i then R ((k - 10) / 4) else 0) else if k < 80 then (if (k - 50) % 3 = 2 ∧ (k - 50) / 3 < i then R ((k - 50) / 3) else 0) else 0
section R72
variable {sa sv d N : Nat} {m : am_M}
theorem bD2_0 (G R : Nat → Nat) (k : Nat) : bD2 G R 0 k = 0 := by
  unfold bD2
  repeat' split
  all_goals first | rfl | omega
theorem bD2_s (G R : Nat → Nat) (i k : Nat) (hi : i < 10) : bD2 G R (i + 1) k = if k = 50 + 3 * i + 2 then R i else if k = 10 + 4 * i + 2 then R i else if k = i then G i else bD2 G R i k := by
  unfold bD2
  by_cases h1 : k = 50 + 3 * i + 2
  · rw [if_pos h1, if_neg (by omega), if_neg (by omega), if_pos (by omega), if_pos (by omega), show (k - 50) / 3 = i by omega]
  · rw [if_neg h1]
    by_cases h2 : k = 10 + 4 * i + 2
    · rw [if_pos h2, if_neg (by omega), if_pos (by omega), if_pos (by omega), show (k - 10) / 4 = i by omega]
    · rw [if_neg h2]
      by_cases h3 : k = i
      · rw [if_pos h3, if_pos (by omega), if_pos (by omega), h3]
      · rw [if_neg h3]
        by_cases k1 : k < 10
        · rw [if_pos k1, if_pos k1]
          by_cases e : k < i
          · rw [if_pos e, if_pos (by omega)]
          · rw [if_neg e, if_neg (by omega)]
        · rw [if_neg k1, if_neg k1]
          by_cases k2 : k < 50
          · rw [if_pos k2, if_pos k2]
            by_cases e : (k - 10) % 4 = 2 ∧ (k - 10) / 4 < i
            · rw [if_pos e, if_pos (by omega)]
            · rw [if_neg e, if_neg (by omega)]
          · rw [if_neg k2, if_neg k2]
            by_cases k3 : k < 80
            · rw [if_pos k3, if_pos k3]
              by_cases e : (k - 50) % 3 = 2 ∧ (k - 50) / 3 < i
              · rw [if_pos e, if_pos (by omega)]
              · rw [if_neg e, if_neg (by omega)]
            · rw [if_neg k3, if_neg k3]
end R72
