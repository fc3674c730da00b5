/-! the reference lets the lines of an income withhold -/
/-- what p has of the first i lines, after withholding -/
def og_ (s : Nat → Int32) (l : List Ln) (p : Nat) : Nat → Nat
  | 0 => 0
  | i + 1 => og_ s l p i + match l[i]? with
    | some x => if p = x.2.1 then x.2.2.1 - wd_ s l i else 0
    | none => 0
/-- what p has of the first i lines -/
def eg_ (l : List Ln) (p : Nat) : Nat → Nat
  | 0 => 0
  | i + 1 => eg_ l p i + match l[i]? with
    | some x => if p = x.2.1 then x.2.2.1 else 0
    | none => 0
section R64
variable {sa sv d N : Nat} {m : am_M} {s : Nat → Int32} {q : Nat → Int64}
theorem wh_s {s : Nat → Int32} {l : List Ln} {i : Nat} {x : Ln} (hx : l[i]? = some x) : wh_ s l (i + 1) = ((wa_ s x.1 x.2.1 ((wh_ s l i).1, (wh_ s l i).2, x.2.2.1) (cN s 3)).1, (wa_ s x.1 x.2.1 ((wh_ s l i).1, (wh_ s l i).2, x.2.2.1) (cN s 3)).2.1) := by
  rw [wh_, hx]
theorem wd_i {s : Nat → Int32} {l : List Ln} {i : Nat} {x : Ln} (hx : l[i]? = some x) : wd_ s l i = x.2.2.1 - (wa_ s x.1 x.2.1 ((wh_ s l i).1, (wh_ s l i).2, x.2.2.1) (cN s 3)).2.2 := by
  unfold wd_; rw [hx]
theorem og_s {s : Nat → Int32} {l : List Ln} {i : Nat} {x : Ln} (hx : l[i]? = some x) (p : Nat) : og_ s l p (i + 1) = if p = x.2.1 then og_ s l p i + (wa_ s x.1 x.2.1 ((wh_ s l i).1, (wh_ s l i).2, x.2.2.1) (cN s 3)).2.2 else og_ s l p i := by
  have h1 := wa_left s x.1 x.2.1 ((wh_ s l i).1, (wh_ s l i).2, x.2.2.1) (cN s 3)
  have h1 : (wa_ s x.1 x.2.1 ((wh_ s l i).1, (wh_ s l i).2, x.2.2.1) (cN s 3)).2.2 ≤ x.2.2.1 := h1
  rw [og_, hx]
  show og_ s l p i + (if p = x.2.1 then x.2.2.1 - wd_ s l i else 0) = _
  by_cases e : p = x.2.1
  · rw [if_pos e, if_pos e, wd_i hx]; omega
  · rw [if_neg e, if_neg e]; rfl
end R64
