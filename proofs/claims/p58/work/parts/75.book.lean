/-! the class books an income: its loops -/
theorem OS.frd {P : Nat → Nat → Prop} {m m' : am_M} {o : Nat} (h : OS m o) (hf : Fr P m m') (hp : ∀ a k, P a k → ¬ (a = o ∧ 1 ≤ k) ∧ ¬ (a = o + 1 ∧ 2 ≤ k) ∧ ¬ (a = o + 19 ∧ k < 7) ∧ ((a = o + 7 ∨ a = o + 9 ∨ a = o + 11 ∨ a = o + 13 ∨ a = o + 15 ∨ a = o + 17) → 2 ≤ k)) : OS m' o := by
  refine h.fr hf (fun x hx z => ?_) (fun x hx z => ?_)
  · have h3 := of_decide_eq_true (List.all_eq_true.mp (by decide : orf_.all (fun x => decide ((x.1 = 0 ∧ 1 ≤ x.2.1) ∨ (x.1 = 1 ∧ 2 ≤ x.2.1) ∨ (x.1 = 19 ∧ x.2.1 < 7) ∨ ((x.1 = 7 ∨ x.1 = 9 ∨ x.1 = 11 ∨ x.1 = 13 ∨ x.1 = 15 ∨ x.1 = 17) ∧ x.2.1 < 2))) = true) x hx)
    have h4 := hp _ _ z
    omega
  · have h3 := of_decide_eq_true (List.all_eq_true.mp (by decide : owd_.all (fun x => decide (x.1 = 7 ∨ x.1 = 9 ∨ x.1 = 11 ∨ x.1 = 13 ∨ x.1 = 15 ∨ x.1 = 17)) = true) x hx)
    have h4 := hp _ _ z
    omega
section R75
variable {sa sv d N o : Nat} {m : am_M} {s : Nat → Int32}
/-- the lines of an office -/
def bA2 (s : Nat → Int32) (l : List Ln) (p c i : Nat) : Nat := if c = 0 then eg_ l p i else if c = 1 then dw_ s l p i else 0
theorem bA2_s {l : List Ln} {i : Nat} {x : Ln} (hx : l[i]? = some x) (p c : Nat) : bA2 s l p c (i + 1) = bA2 s l p c i + if p = x.2.1 then (if c = 0 then x.2.2.1 else if c = 1 then wd_ s l i else 0) else 0 := by
  unfold bA2
  rw [eg_s hx, dw_s hx]
  by_cases e : p = x.2.1
  · rw [if_pos e, if_pos e, if_pos e]
    split
    · rfl
    · split <;> rfl
  · rw [if_neg e, if_neg e, if_neg e]; rfl
theorem bA2_0 (l : List Ln) (p c : Nat) : bA2 s l p c 0 = 0 := by
  unfold bA2
  repeat' split
  all_goals rfl
theorem bA2_b {l : List Ln} {b : Nat} (h : lsm_ l ≤ b) (p c i : Nat) (hi : i ≤ l.length) : bA2 s l p c i ≤ b := by
  have h1 := eg_b h p i hi
  have h2 := dw_og (s := s) (l := l) p i
  unfold bA2
  repeat' split
  all_goals omega
def BL (o a : Nat) : Prop := a = o + 20 ∨ a = o + 21 ∨ a = o + 22 ∨ a = o + 23
end R75
