/-! the reference books: the lines' sums -/
def bD3 (s : Nat → Int32) (l : List Ln) (i k : Nat) : Nat := if k < 10 then 0 else if k < 50 then (if (k - 10) % 4 = 0 then eg_ l ((k - 10) / 4) i else if (k - 10) % 4 = 1 then dw_ s l ((k - 10) / 4) i else 0) else if k < 80 then (if (k - 50) % 3 = 0 then eg_ l ((k - 50) / 3) i else if (k - 50) % 3 = 1 then dw_ s l ((k - 50) / 3) i else 0) else if k < 200 then ew_ l ((k - 80) / 12) ((k - 80) % 12) i else 0
theorem bD3_0 (s : Nat → Int32) (l : List Ln) (k : Nat) : bD3 s l 0 k = 0 := by
  unfold bD3
  repeat' split
  all_goals rfl
theorem bD3_s {s : Nat → Int32} {l : List Ln} {i : Nat} {x : Ln} (hx : l[i]? = some x) (hw : x.1 < 12) (hp : x.2.1 < 10) (k : Nat) : bD3 s l (i + 1) k = bD3 s l i k + (if k = 80 + 12 * x.2.1 + x.1 ∨ k = 10 + 4 * x.2.1 + 0 ∨ k = 50 + 3 * x.2.1 + 0 then x.2.2.1 else if k = 10 + 4 * x.2.1 + 1 ∨ k = 50 + 3 * x.2.1 + 1 then wd_ s l i else 0) := by
  unfold bD3
  by_cases k1 : k < 10
  · rw [if_pos k1, if_pos k1, if_neg (by omega), if_neg (by omega)]
  · rw [if_neg k1, if_neg k1]
    by_cases k2 : k < 50
    · rw [if_pos k2, if_pos k2, eg_s hx, dw_s hx]
      by_cases c0 : (k - 10) % 4 = 0
      · rw [if_pos c0, if_pos c0]
        by_cases e : (k - 10) / 4 = x.2.1
        · rw [if_pos e, if_pos (by omega)]
        · rw [if_neg e, if_neg (by omega), if_neg (by omega)]
      · rw [if_neg c0, if_neg c0]
        by_cases c1 : (k - 10) % 4 = 1
        · rw [if_pos c1, if_pos c1]
          by_cases e : (k - 10) / 4 = x.2.1
          · rw [if_pos e, if_neg (by omega), if_pos (by omega)]
          · rw [if_neg e, if_neg (by omega), if_neg (by omega)]
        · rw [if_neg c1, if_neg c1, if_neg (by omega), if_neg (by omega)]
    · rw [if_neg k2, if_neg k2]
      by_cases k3 : k < 80
      · rw [if_pos k3, if_pos k3, eg_s hx, dw_s hx]
        by_cases c0 : (k - 50) % 3 = 0
        · rw [if_pos c0, if_pos c0]
          by_cases e : (k - 50) / 3 = x.2.1
          · rw [if_pos e, if_pos (by omega)]
          · rw [if_neg e, if_neg (by omega), if_neg (by omega)]
        · rw [if_neg c0, if_neg c0]
          by_cases c1 : (k - 50) % 3 = 1
          · rw [if_pos c1, if_pos c1]
            by_cases e : (k - 50) / 3 = x.2.1
            · rw [if_pos e, if_neg (by omega), if_pos (by omega)]
            · rw [if_neg e, if_neg (by omega), if_neg (by omega)]
          · rw [if_neg c1, if_neg c1, if_neg (by omega), if_neg (by omega)]
      · rw [if_neg k3, if_neg k3]
        by_cases k4 : k < 200
        · rw [if_pos k4, if_pos k4, ew_s hx]
          by_cases e : (k - 80) / 12 = x.2.1 ∧ (k - 80) % 12 = x.1
          · rw [if_pos e, if_pos (by omega)]
          · rw [if_neg e, if_neg (by omega), if_neg (by omega)]
        · rw [if_neg k4, if_neg k4, if_neg (by omega), if_neg (by omega)]
theorem eg_b {l : List Ln} {b : Nat} (h : lsm_ l ≤ b) (p i : Nat) (hi : i ≤ l.length) : eg_ l p i ≤ b := by
  have h1 := eg_le (l := l) p i hi
  have h2 : lsm_ (l.take i) ≤ lsm_ l := by
    rw [show lsm_ l = lsm_ (l.take i ++ l.drop i) by rw [List.take_append_drop], lsm_app]
    omega
  omega
theorem bD3_b {s : Nat → Int32} {l : List Ln} {b : Nat} (h : lsm_ l ≤ b) (i k : Nat) (hi : i ≤ l.length) : bD3 s l i k ≤ b := by
  have h1 := fun p => eg_b h p i hi
  have h2 : ∀ p, dw_ s l p i ≤ b := fun p => by have := dw_og (s := s) (l := l) p i; have := h1 p; omega
  have h3 : ∀ p w, ew_ l p w i ≤ b := fun p w => by have := ew_le (l := l) p w i; have := h1 p; omega
  unfold bD3
  repeat' split
  all_goals first | exact Nat.zero_le _ | exact h1 _ | exact h2 _ | exact h3 _ _
section R72
variable {sa sv d N : Nat} {m : am_M} {s : Nat → Int32}
end R72
