/-! the reference reads its rows: splits, shares, roots -/
theorem fst_spec (p : Nat → Bool) : ∀ n i, (fst_ p n i = i + n ∧ ∀ t, i ≤ t → t < i + n → p t = false) ∨ (i ≤ fst_ p n i ∧ fst_ p n i < i + n ∧ p (fst_ p n i) = true ∧ ∀ t, i ≤ t → t < fst_ p n i → p t = false) := by
  intro n
  induction n with
  | zero => exact fun i => Or.inl ⟨rfl, fun t h1 h2 => by omega⟩
  | succ n ih =>
    intro i
    cases h : p i with
    | true =>
      rw [fst_s h]
      exact Or.inr ⟨Nat.le_refl _, by omega, h, fun t h1 h2 => by omega⟩
    | false =>
      rw [fst_n h]
      rcases ih (i + 1) with ⟨h1, h2⟩ | ⟨h1, h2, h3, h4⟩
      · refine Or.inl ⟨by omega, fun t ht ht2 => ?_⟩
        by_cases e : t = i
        · rw [e]; exact h
        · exact h2 t (by omega) (by omega)
      · refine Or.inr ⟨by omega, by omega, h3, fun t ht ht2 => ?_⟩
        by_cases e : t = i
        · rw [e]; exact h
        · exact h4 t (by omega) (by omega)
/-- the last that matches is the first, where at most one does -/
theorem fl_fst {α : Type} (p : Nat → Bool) (f : Nat → α) (z : α) (n : Nat) (h1 : ∀ i j, i < j → j < n → p i = true → p j = true → False) : fl_ (fun j acc => if p j = true then f j else acc) z n = if fst_ p n 0 < n then f (fst_ p n 0) else z := by
  have key : ∀ k, k ≤ n → fl_ (fun j acc => if p j = true then f j else acc) z k = if fst_ p n 0 < k then f (fst_ p n 0) else z := by
    intro k
    induction k with
    | zero => exact fun _ => rfl
    | succ k ih =>
      intro hk
      rw [fl_s, ih (by omega)]
      rcases fst_spec p n 0 with ⟨a1, a2⟩ | ⟨a1, a2, a3, a4⟩
      · rw [if_neg (by rw [a2 k (by omega) (by omega)]; decide), if_neg (by omega), if_neg (by omega)]
      · by_cases e : fst_ p n 0 = k
        · rw [if_pos (by rw [← e]; exact a3), if_pos (by omega), e]
        · by_cases e2 : fst_ p n 0 < k
          · rw [if_neg (fun z => h1 _ _ e2 (by omega) a3 z), if_pos e2, if_pos (by omega)]
          · rw [if_neg (by rw [a4 k (by omega) (by omega)]; decide), if_neg e2, if_neg (by omega)]
  exact key n (Nat.le_refl n)
theorem rt_or {s : Nat → Int32} (w : Nat) : ∀ v x, v ≤ w → rt_ s v (2 ^ w ||| x) = 2 ^ w ||| rt_ s v x := by
  intro v
  induction v with
  | zero => exact fun _ _ => rfl
  | succ v ih =>
    intro x hv
    have hb : (2 ^ w ||| x).testBit v = x.testBit v := by
      rw [Nat.testBit_or, Nat.testBit_two_pow, decide_eq_false (by omega), Bool.false_or]
    rw [rt_, rt_, hb]
    cases x.testBit v with
    | false => exact ih _ (by omega)
    | true =>
      show rt_ s v (2 ^ w ||| x ||| so_ s v) = _
      rw [Nat.or_assoc]
      exact ih _ (by omega)
theorem rt_lt {s : Nat → Int32} (hC : WC s) (hW : WW s) (w : Nat) (hw : w < cN s 1) : ∀ v x, v ≤ w → x < 2 ^ w → rt_ s v x < 2 ^ w := by
  intro v
  induction v with
  | zero => exact fun x _ h => h
  | succ v ih =>
    intro x hv h
    refine ih _ (by omega) ?_
    cases x.testBit v with
    | false => exact h
    | true => exact Nat.or_lt_two_pow h (Nat.lt_of_lt_of_le (so_lt hC hW (by omega)) (Nat.pow_le_pow_right (by decide) (by omega)))
theorem rts_lt {s : Nat → Int32} (hC : WC s) (hW : WW s) {w : Nat} (hw : w < cN s 1) : rts_ s w < 2 ^ w := rt_lt hC hW w hw w _ (Nat.le_refl w) (so_lt hC hW hw)
theorem rt_ref {s : Nat → Int32} (hC : WC s) (hW : WW s) {w : Nat} (hw : w < cN s 1) : rt_ s (w + 1) (2 ^ w) - 2 ^ w = rts_ s w := by
  have hb : (2 ^ w).testBit w = true := by rw [Nat.testBit_two_pow]; exact decide_eq_true rfl
  have e : rt_ s (w + 1) (2 ^ w) = rt_ s w (2 ^ w ||| so_ s w) := by rw [rt_, hb]; rfl
  rw [e, rt_or w w _ (Nat.le_refl w)]
  show (2 ^ w ||| rts_ s w) - 2 ^ w = rts_ s w
  have h := rts_lt hC hW hw
  have e2 := Nat.two_pow_add_eq_or_of_lt h 1
  rw [Nat.mul_one] at e2
  rw [← e2]
  omega
section R50
variable {sa sv d N : Nat} {m : am_M} {s : Nat → Int32} {q : Nat → Int64}
end R50
