/-! the amount that recoups an advance: the numbers -/
theorem wa_bef (s : Nat → Int32) (w p : Nat) (st : Wst) (a : Nat) : ∀ n, n ≤ a → (wa_ s w p st n).1 a = st.1 a := by
  intro n
  induction n with
  | zero => exact fun _ => rfl
  | succ n ih =>
    intro hn
    rw [wa_s', ← ih (by omega)]
    generalize wa_ s w p st n = t
    unfold wst_
    cases adm_ s w p n with
    | false => rfl
    | true =>
      show (if a = n then t.1 n - kp_ s n t else t.1 a) = t.1 a
      rw [if_neg (by omega)]
theorem wa_rc (s : Nat → Int32) (w p : Nat) (st : Wst) (a : Nat) : ∀ n, 100 * st.1 a ≤ 100 * (wa_ s w p st n).1 a + st.2.2 * cN s (690 + 6 * a + 3) := by
  intro n
  induction n with
  | zero => exact Nat.le_add_right _ _
  | succ n ih =>
    by_cases e : a = n
    · subst e
      have h1 := wa_bef s w p st a a (Nat.le_refl _)
      have h2 := wa_left s w p st a
      rw [wa_s']
      generalize wa_ s w p st a = t at *
      unfold wst_
      cases adm_ s w p a with
      | false => exact ih
      | true =>
        show 100 * st.1 a ≤ 100 * (if a = a then t.1 a - kp_ s a t else t.1 a) + _
        rw [if_pos rfl, ← h1]
        have h3 : kp_ s a t ≤ t.2.2 * cN s (690 + 6 * a + 3) / 100 := Nat.min_le_left _ _
        have h4 := Nat.mul_le_mul_right (cN s (690 + 6 * a + 3)) h2
        have h5 : 100 * (t.2.2 * cN s (690 + 6 * a + 3) / 100) ≤ t.2.2 * cN s (690 + 6 * a + 3) := Nat.mul_div_le _ _
        generalize t.2.2 * cN s (690 + 6 * a + 3) = X at *
        omega
    · rw [wa_s']
      generalize wa_ s w p st n = t at *
      unfold wst_
      cases adm_ s w p n with
      | false => exact ih
      | true =>
        show 100 * st.1 a ≤ 100 * (if a = n then t.1 n - kp_ s n t else t.1 a) + _
        rw [if_neg e]
        exact ih
theorem wh_rc (s : Nat → Int32) (l : List Ln) (a : Nat) : ∀ i, 100 * cN s (690 + 6 * a + 5) ≤ 100 * (wh_ s l i).1 a + lsm_ (l.take i) * cN s (690 + 6 * a + 3) := by
  intro i
  induction i with
  | zero => exact Nat.le_add_right _ _
  | succ i ih =>
    cases h : l[i]? with
    | none =>
      have hl := List.getElem?_eq_none_iff.mp h
      rw [wh_, h]
      rw [List.take_of_length_le (by omega)] at ih ⊢
      exact ih
    | some x =>
      have e : l.take (i + 1) = l.take i ++ [x] := by
        rw [List.take_succ, h]; rfl
      have h2 := wa_rc s x.1 x.2.1 ((wh_ s l i).1, (wh_ s l i).2, x.2.2.1) a (cN s 3)
      have h2 : 100 * (wh_ s l i).1 a ≤ 100 * (wa_ s x.1 x.2.1 ((wh_ s l i).1, (wh_ s l i).2, x.2.2.1) (cN s 3)).1 a + x.2.2.1 * cN s (690 + 6 * a + 3) := h2
      rw [wh_s h, e, lsm_app]
      show _ ≤ 100 * (wa_ s x.1 x.2.1 ((wh_ s l i).1, (wh_ s l i).2, x.2.2.1) (cN s 3)).1 a + (lsm_ (l.take i) + (x.2.2.1 + 0)) * _
      rw [Nat.add_zero, Nat.add_mul]
      generalize lsm_ (l.take i) * cN s (690 + 6 * a + 3) = X at *
      generalize x.2.2.1 * cN s (690 + 6 * a + 3) = Y at *
      omega
/-- does an income of x to w recoup a -/
def rc_ (s : Nat → Int32) (w a x : Nat) : Bool := decide ((wh_ s (dL_ s w x) (dL_ s w x).length).1 a = 0)
theorem rc_lo {s : Nat → Int32} (hC : WC s) (hW : WW s) (hA : WA s) {w a x : Nat} (hw : w < cN s 1) (h : x * cN s (690 + 6 * a + 3) < 100 * cN s (690 + 6 * a + 5)) : rc_ s w a x = false := by
  refine decide_eq_false fun z => ?_
  have h1 := wh_rc s (dL_ s w x) a (dL_ s w x).length
  rw [z, List.take_length] at h1
  have h2 : lsm_ (dL_ s w x) ≤ x := dvd_lsm hC hW hA (cN s 4) w x hw
  have h3 := Nat.mul_le_mul_right (cN s (690 + 6 * a + 3)) h2
  omega
theorem fst_skip {p : Nat → Bool} : ∀ k n i, k ≤ n → (∀ x, i ≤ x → x < i + k → p x = false) → fst_ p n i = fst_ p (n - k) (i + k)
  | 0, _, _, _, _ => rfl
  | k + 1, n, i, hk, h => by
    obtain ⟨n, rfl⟩ : ∃ n', n = n' + 1 := ⟨n - 1, by omega⟩
    rw [fst_, h i (Nat.le_refl _) (by omega), cond_false, fst_skip k n (i + 1) (by omega) fun x h1 h2 => h x (by omega) (by omega)]
    rw [show n + 1 - (k + 1) = n - k by omega, show i + 1 + k = i + (k + 1) by omega]
