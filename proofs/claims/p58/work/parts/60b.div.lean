/-! an income divided: how many lines -/
theorem sum_swap (f : Nat → Nat → Nat) (n : Nat) : ∀ k, sum_ (fun i => sum_ (fun j => f i j) n) k = sum_ (fun j => sum_ (fun i => f i j) k) n := by
  intro k
  induction k with
  | zero =>
    show 0 = sum_ (fun _ => 0) n
    induction n with
    | zero => rfl
    | succ n ih => rw [sum_s, ← ih]
  | succ k ih => rw [sum_s, ih, ← sum_add]; rfl
theorem sum_uniq (P : Nat → Bool) : ∀ n, (∀ i j, i < j → j < n → P i = true → P j = true → False) → sum_ (fun i => bif P i then 1 else 0) n ≤ 1 := by
  intro n
  induction n with
  | zero => exact fun _ => Nat.zero_le _
  | succ n ih =>
    intro h
    rw [sum_s]
    cases hp : P n with
    | false => exact ih fun i j a b => h i j a (by omega)
    | true =>
      have : sum_ (fun i => bif P i then 1 else 0) n = 0 := by
        have key : ∀ k, k ≤ n → sum_ (fun i => bif P i then 1 else 0) k = 0 := by
          intro k
          induction k with
          | zero => exact fun _ => rfl
          | succ k ik =>
            intro hk
            rw [sum_s, ik (by omega)]
            cases hq : P k with
            | false => rfl
            | true => exact (h k n (by omega) (by omega) hq hp).elim
        exact key n (Nat.le_refl n)
      rw [this]; exact Nat.le_refl 1
theorem sum_const (c : Nat) : ∀ n, sum_ (fun _ => c) n = c * n := by
  intro n
  induction n with
  | zero => rfl
  | succ n ih => rw [sum_s, ih, Nat.mul_succ]
def ca_ (s : Nat → Int32) (w p day : Nat) : Nat := sum_ (fun a => bif asm_ s w p day a then 1 else 0) (cN s 2)
/-- how many assignments are in a work -/
def aw_ (s : Nat → Int32) (w : Nat) : Nat := sum_ (fun a => bif decide (cN s (594 + 6 * a + 1) = w) then 1 else 0) (cN s 2)
theorem asg_len (s : Nat → Int32) (w p part day : Nat) : ∀ n, (asg_ s w p part day n).length ≤ sum_ (fun a => bif asm_ s w p day a then 1 else 0) n := by
  intro n
  induction n with
  | zero => exact Nat.le_refl _
  | succ n ih =>
    rw [asg_, List.length_append, sum_s]
    cases h : asm_ s w p day n with
    | false => rw [if_neg (by rintro ⟨z, -⟩; cases z)]; exact ih
    | true =>
      by_cases h2 : 0 < part * cN s (594 + 6 * n + 3) / 100
      · rw [if_pos ⟨rfl, h2⟩]; exact Nat.succ_le_succ ih
      · rw [if_neg (fun z => h2 z.2)]; exact Nat.le_trans ih (Nat.le_succ _)
theorem pl_len (s : Nat → Int32) (w p part day : Nat) : (pl_ s w p part day).length ≤ ca_ s w p day + 1 := by
  rw [pl_, List.length_append]
  have := asg_len s w p part day (cN s 2)
  by_cases h : 0 < part - asu_ s w p part day (cN s 2)
  · rw [if_pos h]; exact Nat.add_le_add this (Nat.le_refl 1)
  · rw [if_neg h]; exact Nat.le_trans this (Nat.le_succ _)
theorem shs_len (s : Nat → Int32) (w k c day : Nat) : ∀ n, (shs_ s w k c day n).length ≤ sum_ (fun j => ca_ s w (cN s (27 + 48 * w + 4 * k + j)) day) n + n := by
  intro n
  induction n with
  | zero => exact Nat.le_refl _
  | succ n ih =>
    rw [shs_, List.length_append, sum_s]
    have := pl_len s w (cN s (27 + 48 * w + 4 * k + n)) (prt_ s w k c n) day
    omega
theorem ca_sum {s : Nat → Int32} (hW : WW s) {w k : Nat} (day : Nat) (hw : w < cN s 1) (hk : k < cN s (18 + 48 * w)) {n : Nat} (hn : n ≤ cN s (23 + 48 * w + k)) : sum_ (fun j => ca_ s w (cN s (27 + 48 * w + 4 * k + j)) day) n ≤ aw_ s w := by
  show sum_ (fun j => sum_ (fun a => bif asm_ s w (cN s (27 + 48 * w + 4 * k + j)) day a then 1 else 0) (cN s 2)) n ≤ _
  rw [sum_swap]
  refine sum_le fun a _ => ?_
  by_cases h : cN s (594 + 6 * a + 1) = w
  · rw [decide_eq_true h]
    refine sum_uniq _ n fun i j hij hj hi hj2 => ?_
    simp only [asm_, Bool.and_eq_true, decide_eq_true_eq] at hi hj2
    exact ww_hd hW w k i j hw hk (by omega) hij (hi.1.1.symm.trans hj2.1.1)
  · rw [decide_eq_false h]
    have e : sum_ (fun i => bif asm_ s w (cN s (27 + 48 * w + 4 * k + i)) day a then 1 else 0) n = sum_ (fun _ => 0) n := sum_cg fun i _ => by
      have : asm_ s w (cN s (27 + 48 * w + 4 * k + i)) day a = false := by
        unfold asm_
        rw [decide_eq_false (fun z => h z.2), Bool.false_and]
      rw [this]; rfl
    rw [e, sum_const]; exact Nat.le_of_eq (Nat.zero_mul n)
theorem wk_len {s : Nat → Int32} (hW : WW s) (day : Nat) {v : Nat} (hv : v < cN s 1) (st : (Nat → Nat) × List Ln) : (wk_ s day v st).2.length ≤ st.2.length + (aw_ s v + 4) := by
  unfold wk_
  by_cases h : st.1 v = 0
  · rw [if_pos h]; omega
  · rw [if_neg h]
    show (st.2 ++ _).length ≤ _
    have hk := spl_lt hW v day hv
    have h1 := shs_len s v (spl_ s v day) (st.1 v - srp_ s v (st.1 v) (cN s (59 + 48 * v))) day (cN s (23 + 48 * v + spl_ s v day))
    have h2 := ca_sum hW day hv hk (Nat.le_refl _)
    have h3 := isN_lt (ww_nh hW v _ hv hk).1 (by decide)
    rw [List.length_append]
    omega
theorem dv_len {s : Nat → Int32} (hW : WW s) (day : Nat) : ∀ v st, v ≤ cN s 1 → (dv_ s day v st).2.length ≤ st.2.length + sum_ (fun u => aw_ s u + 4) v := by
  intro v
  induction v with
  | zero => intro st _; exact Nat.le_refl _
  | succ v ih =>
    intro st hv
    have h1 := ih (wk_ s day v st) (by omega)
    have h2 := wk_len hW day (show v < cN s 1 by omega) st
    rw [sum_s]
    show (dv_ s day v (wk_ s day v st)).2.length ≤ _
    omega
theorem aw_sum (s : Nat → Int32) (v : Nat) : sum_ (fun u => aw_ s u) v ≤ cN s 2 := by
  show sum_ (fun u => sum_ (fun a => bif decide (cN s (594 + 6 * a + 1) = u) then 1 else 0) (cN s 2)) v ≤ _
  rw [sum_swap]
  refine Nat.le_trans (sum_le (g := fun _ => 1) fun a _ => ?_) (by rw [sum_const]; omega)
  exact sum_uniq (fun u => decide (cN s (594 + 6 * a + 1) = u)) v fun i j hij _ hi hj => by
    have e1 := of_decide_eq_true hi
    have e2 := of_decide_eq_true hj
    omega
theorem dv_64 {s : Nat → Int32} (hC : WC s) (hW : WW s) (day : Nat) (v : Nat) (f : Nat → Nat) (hv : v ≤ cN s 1) : (dv_ s day v (f, [])).2.length ≤ 64 := by
  have h1 := dv_len hW day v (f, []) hv
  have h2 := aw_sum s v
  have h3 := sum_add (aw_ s) (fun _ => 4) v
  rw [sum_const] at h3
  have h4 := isN_lt (wc_na hC) (by decide)
  have h5 := isN_lt (wc_nw hC) (by decide)
  have h6 : sum_ (fun u => aw_ s u + 4) v = sum_ (aw_ s) v + 4 * v := h3
  have h7 : ([] : List Ln).length = 0 := rfl
  have h8 : sum_ (aw_ s) v ≤ cN s 2 := h2
  show _ ≤ _
  simp only [List.length_nil] at h1
  omega
/-- what came before stays in front -/
theorem wk_pre (s : Nat → Int32) (day v : Nat) (st : (Nat → Nat) × List Ln) : ∃ t, (wk_ s day v st).2 = st.2 ++ t := by
  unfold wk_
  by_cases h : st.1 v = 0
  · rw [if_pos h]; exact ⟨[], (List.append_nil _).symm⟩
  · rw [if_neg h]; exact ⟨_, rfl⟩
theorem dv_pre (s : Nat → Int32) (day : Nat) : ∀ v st, ∃ t, (dv_ s day v st).2 = st.2 ++ t := by
  intro v
  induction v with
  | zero => exact fun st => ⟨[], (List.append_nil _).symm⟩
  | succ v ih =>
    intro st
    obtain ⟨t1, h1⟩ := wk_pre s day v st
    obtain ⟨t2, h2⟩ := ih (wk_ s day v st)
    exact ⟨t1 ++ t2, by show (dv_ s day v (wk_ s day v st)).2 = _; rw [h2, h1, List.append_assoc]⟩
