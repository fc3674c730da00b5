/-! what is booked: sums in long rows -/
theorem nL_add {x y : Nat} (h : x + y < 2 ^ 31) : (nI x).toInt64 + (nI y).toInt64 = (nI (x + y)).toInt64 := by
  apply Int64.toInt_inj.mp
  rw [Int64.toInt_add, Int32.toInt_toInt64, Int32.toInt_toInt64, Int32.toInt_toInt64, nI_toInt (by omega), nI_toInt (by omega), nI_toInt h]
  rw [Int.bmod_eq_of_le (by omega) (by omega)]
  omega
theorem nL_acc (z : Int64) {x y : Nat} (h : x + y < 2 ^ 31) : z + (nI x).toInt64 + (nI y).toInt64 = z + (nI (x + y)).toInt64 := by
  rw [Int64.add_assoc, nL_add h]
theorem nL_0 (z : Int64) : z + (nI 0).toInt64 = z := by
  rw [show (nI 0).toInt64 = 0 by decide, Int64.add_zero]
/-- what p has of the first i lines of w -/
def ew_ (l : List Ln) (p w : Nat) : Nat → Nat
  | 0 => 0
  | i + 1 => ew_ l p w i + match l[i]? with
    | some x => if p = x.2.1 ∧ w = x.1 then x.2.2.1 else 0
    | none => 0
/-- what is withheld of p's of the first i lines -/
def dw_ (s : Nat → Int32) (l : List Ln) (p : Nat) : Nat → Nat
  | 0 => 0
  | i + 1 => dw_ s l p i + match l[i]? with
    | some x => if p = x.2.1 then wd_ s l i else 0
    | none => 0
theorem ew_s {l : List Ln} {i : Nat} {x : Ln} (hx : l[i]? = some x) (p w : Nat) : ew_ l p w (i + 1) = ew_ l p w i + if p = x.2.1 ∧ w = x.1 then x.2.2.1 else 0 := by
  rw [ew_, hx]
theorem dw_s {s : Nat → Int32} {l : List Ln} {i : Nat} {x : Ln} (hx : l[i]? = some x) (p : Nat) : dw_ s l p (i + 1) = dw_ s l p i + if p = x.2.1 then wd_ s l i else 0 := by
  rw [dw_, hx]
theorem ew_le {l : List Ln} (p w : Nat) : ∀ i, ew_ l p w i ≤ eg_ l p i := by
  intro i
  induction i with
  | zero => exact Nat.le_refl _
  | succ i ih =>
    cases hx : l[i]? with
    | none => rw [ew_, eg_, hx]; exact ih
    | some x =>
      rw [ew_s hx, eg_s hx]
      by_cases e : p = x.2.1
      · rw [if_pos e]
        by_cases e2 : w = x.1
        · rw [if_pos ⟨e, e2⟩]; omega
        · rw [if_neg (fun z => e2 z.2)]; omega
      · rw [if_neg (fun z => e z.1), if_neg e]; omega
theorem dw_og {s : Nat → Int32} {l : List Ln} (p : Nat) : ∀ i, dw_ s l p i + og_ s l p i = eg_ l p i := by
  intro i
  induction i with
  | zero => rfl
  | succ i ih =>
    cases hx : l[i]? with
    | none => rw [dw_, og_, eg_, hx]; exact ih
    | some x =>
      have := wd_le (s := s) hx
      rw [dw_s hx, og_t hx, eg_s hx]
      by_cases e : p = x.2.1
      · rw [if_pos e, if_pos e, if_pos e]; omega
      · rw [if_neg e, if_neg e, if_neg e]; omega
