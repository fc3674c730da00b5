/-! advances withhold: the numbers -/
/-- lines at a, what is withheld told by g -/
def LF (m : am_M) (a : Nat) (l : List Ln) (g : Nat → Nat) : Prop := ∀ i x, l[i]? = some x → gi_ m a (i * 4) = nI x.1 ∧ gi_ m a (i * 4 + 1) = nI x.2.1 ∧ gi_ m a (i * 4 + 2) = nI x.2.2.1 ∧ gi_ m a (i * 4 + 3) = nI (g i)
/-- a good line -/
def GL (s : Nat → Int32) (x : Ln) : Prop := x.1 < cN s 1 ∧ x.2.1 < cN s 0 ∧ 0 < x.2.2.1 ∧ x.2.2.1 ≤ 9999999 ∧ x.2.2.2 = 0
abbrev Wst : Type := (Nat → Nat) × (Nat → Nat) × Nat
/-- is the advance a one on which a line of p in w is due -/
def adm_ (s : Nat → Int32) (w p a : Nat) : Bool := decide (cN s (690 + 6 * a + 1) = p) && decide (s (690 + 6 * a + 4) = -1 ∨ s (690 + 6 * a + 4) = nI w)
def kp_ (s : Nat → Int32) (a : Nat) (st : Wst) : Nat := min (st.2.2 * cN s (690 + 6 * a + 3) / 100) (st.1 a)
def wst_ (s : Nat → Int32) (w p a : Nat) (st : Wst) : Wst := bif adm_ s w p a then ((fun b => if b = a then st.1 a - kp_ s a st else st.1 b), (fun u => if u = cN s (690 + 6 * a + 0) then st.2.1 u + kp_ s a st else st.2.1 u), st.2.2 - kp_ s a st) else st
def wa_ (s : Nat → Int32) (w p : Nat) (st : Wst) : Nat → Wst := fl_ (wst_ s w p) st
/-- what is open, what was returned, after i lines -/
def wh_ (s : Nat → Int32) (l : List Ln) : Nat → (Nat → Nat) × (Nat → Nat)
  | 0 => ((fun a => cN s (690 + 6 * a + 5)), fun _ => 0)
  | i + 1 => match l[i]? with
    | some x => ((wa_ s x.1 x.2.1 ((wh_ s l i).1, (wh_ s l i).2, x.2.2.1) (cN s 3)).1, (wa_ s x.1 x.2.1 ((wh_ s l i).1, (wh_ s l i).2, x.2.2.1) (cN s 3)).2.1)
    | none => wh_ s l i
/-- what is withheld of line i -/
def wd_ (s : Nat → Int32) (l : List Ln) (i : Nat) : Nat := match l[i]? with
  | some x => x.2.2.1 - (wa_ s x.1 x.2.1 ((wh_ s l i).1, (wh_ s l i).2, x.2.2.1) (cN s 3)).2.2
  | none => 0
theorem wa_s' (s : Nat → Int32) (w p : Nat) (st : Wst) (n : Nat) : wa_ s w p st (n + 1) = wst_ s w p n (wa_ s w p st n) := rfl
theorem wst_left (s : Nat → Int32) (w p a : Nat) (st : Wst) : (wst_ s w p a st).2.2 ≤ st.2.2 := by
  unfold wst_
  cases adm_ s w p a with
  | false => exact Nat.le_refl _
  | true => exact Nat.sub_le _ _
theorem wa_left (s : Nat → Int32) (w p : Nat) (st : Wst) : ∀ n, (wa_ s w p st n).2.2 ≤ st.2.2 := by
  intro n
  induction n with
  | zero => exact Nat.le_refl _
  | succ n ih => rw [wa_s']; exact Nat.le_trans (wst_left _ _ _ _ _) ih
theorem kp_left {s : Nat → Int32} {a : Nat} (h : cN s (690 + 6 * a + 3) ≤ 100) (st : Wst) : kp_ s a st ≤ st.2.2 := by
  unfold kp_
  have h1 : st.2.2 * cN s (690 + 6 * a + 3) / 100 ≤ st.2.2 := by
    refine Nat.div_le_of_le_mul ?_
    rw [Nat.mul_comm 100]
    exact Nat.mul_le_mul_left _ h
  omega
theorem wst_id (s : Nat → Int32) (w p a : Nat) (st : Wst) (h : kp_ s a st = 0) : wst_ s w p a st = st := by
  unfold wst_
  cases adm_ s w p a with
  | false => rfl
  | true =>
    rw [h]
    obtain ⟨o, r, t⟩ := st
    show ((fun b => if b = a then o a - 0 else o b), (fun u => if u = cN s (690 + 6 * a + 0) then r u + 0 else r u), t - 0) = (o, r, t)
    congr 1
    · funext b
      by_cases e : b = a
      · rw [if_pos e, e]; rfl
      · rw [if_neg e]
    · congr 1
      funext u
      by_cases e : u = cN s (690 + 6 * a + 0)
      · rw [if_pos e]; rfl
      · rw [if_neg e]
theorem wa_tail (s : Nat → Int32) (w p : Nat) (st : Wst) {n k : Nat} (hn : n ≤ k) (h : ∀ a, n ≤ a → a < k → adm_ s w p a = false) : wa_ s w p st k = wa_ s w p st n := by
  obtain ⟨j, rfl⟩ := Nat.exists_eq_add_of_le hn
  clear hn
  induction j with
  | zero => rfl
  | succ j ih =>
    show wst_ s w p (n + j) (wa_ s w p st (n + j)) = _
    rw [ih fun a h1 h2 => h a h1 (by omega)]
    unfold wst_
    rw [h (n + j) (by omega) (by omega)]
    rfl
/-- returned and left together stay within -/
theorem wa_ret {s : Nat → Int32} (hD : WD s) (w p : Nat) (st : Wst) (u : Nat) : ∀ n, n ≤ cN s 3 → (wa_ s w p st n).2.1 u + (wa_ s w p st n).2.2 ≤ st.2.1 u + st.2.2 := by
  intro n
  induction n with
  | zero => exact fun _ => Nat.le_refl _
  | succ n ih =>
    intro hn
    have h1 := ih (by omega)
    have h2 := isN_lt (wd_c hD n (by omega)).1 (by decide)
    have h3 := kp_left (show cN s (690 + 6 * n + 3) ≤ 100 by omega) (wa_ s w p st n)
    rw [wa_s']
    generalize wa_ s w p st n = t at *
    unfold wst_
    cases adm_ s w p n with
    | false => exact h1
    | true =>
      show (if u = cN s (690 + 6 * n + 0) then t.2.1 u + kp_ s n t else t.2.1 u) + (t.2.2 - kp_ s n t) ≤ _
      split <;> omega
theorem wh_ret {s : Nat → Int32} (hD : WD s) (l : List Ln) (u : Nat) : ∀ i, (wh_ s l i).2 u ≤ lsm_ (l.take i) := by
  intro i
  induction i with
  | zero => exact Nat.zero_le _
  | succ i ih =>
    rw [wh_]
    cases h : l[i]? with
    | none =>
      have : l.take (i + 1) = l.take i := by
        have hl := List.getElem?_eq_none_iff.mp h
        rw [List.take_of_length_le (by omega), List.take_of_length_le hl]
      rw [this]; exact ih
    | some x =>
      have hl := (List.getElem?_eq_some_iff.mp h).1
      have e : l.take (i + 1) = l.take i ++ [x] := by
        rw [List.take_succ, h]; rfl
      rw [e, lsm_app]
      have h2 := wa_ret hD x.1 x.2.1 ((wh_ s l i).1, (wh_ s l i).2, x.2.2.1) u (cN s 3) (Nat.le_refl _)
      show (wa_ s x.1 x.2.1 ((wh_ s l i).1, (wh_ s l i).2, x.2.2.1) (cN s 3)).2.1 u ≤ lsm_ (l.take i) + (x.2.2.1 + 0)
      have h3 : (wa_ s x.1 x.2.1 ((wh_ s l i).1, (wh_ s l i).2, x.2.2.1) (cN s 3)).2.1 u + (wa_ s x.1 x.2.1 ((wh_ s l i).1, (wh_ s l i).2, x.2.2.1) (cN s 3)).2.2 ≤ (wh_ s l i).2 u + x.2.2.1 := h2
      omega
theorem wa_open {s : Nat → Int32} (w p : Nat) (st : Wst) (b : Nat) : ∀ n, (wa_ s w p st n).1 b ≤ st.1 b := by
  intro n
  induction n with
  | zero => exact Nat.le_refl _
  | succ n ih =>
    rw [wa_s']
    generalize wa_ s w p st n = t at *
    unfold wst_
    cases adm_ s w p n with
    | false => exact ih
    | true =>
      show (if b = n then t.1 n - kp_ s n t else t.1 b) ≤ _
      split
      · next e => subst e; omega
      · exact ih
theorem wh_open (s : Nat → Int32) (l : List Ln) (b : Nat) : ∀ i, (wh_ s l i).1 b ≤ cN s (690 + 6 * b + 5) := by
  intro i
  induction i with
  | zero => exact Nat.le_refl _
  | succ i ih =>
    rw [wh_]
    cases h : l[i]? with
    | none => exact ih
    | some x => exact Nat.le_trans (wa_open _ _ _ _ _) ih
/-- the lines of an income are good -/
theorem pl_GL {s : Nat → Int32} (hA : WA s) (w p part day : Nat) (hw : w < cN s 1) (hp : p < cN s 0) (hpart : part ≤ 9999999) (h11 : cN s 0 < 11) : ∀ x ∈ pl_ s w p part day, GL s x := by
  have hsum := asu_le hA w p part day (Nat.le_refl (cN s 2))
  have ha : ∀ n, n ≤ cN s 2 → ∀ x ∈ asg_ s w p part day n, GL s x := by
    intro n
    induction n with
    | zero => intro _ x hx; simp [asg_] at hx
    | succ n ih =>
      intro hn x hx
      rw [asg_, List.mem_append] at hx
      rcases hx with hx | hx
      · exact ih (by omega) x hx
      · by_cases h : asm_ s w p day n = true ∧ 0 < part * cN s (594 + 6 * n + 3) / 100
        · rw [if_pos h, List.mem_singleton] at hx
          subst hx
          have h1 := isN_lt (wa_t hA n hn) (by omega)
          have h2 := isN_lt (wa_c hA n hn) (by decide)
          refine ⟨hw, h1, h.2, ?_, rfl⟩
          show part * cN s (594 + 6 * n + 3) / 100 ≤ 9999999
          refine Nat.div_le_of_le_mul ?_
          exact Nat.le_trans (Nat.mul_le_mul hpart (show cN s (594 + 6 * n + 3) ≤ 100 by omega)) (by decide)
        · rw [if_neg h] at hx; cases hx
  intro x hx
  rw [pl_, List.mem_append] at hx
  rcases hx with hx | hx
  · exact ha _ (Nat.le_refl _) x hx
  · by_cases h : 0 < part - asu_ s w p part day (cN s 2)
    · rw [if_pos h, List.mem_singleton] at hx
      subst hx
      exact ⟨hw, hp, h, by show part - _ ≤ _; omega, rfl⟩
    · rw [if_neg h] at hx; cases hx
theorem shs_GL {s : Nat → Int32} (hC : WC s) (hW : WW s) (hA : WA s) (w k c day : Nat) (hw : w < cN s 1) (hk : k < cN s (18 + 48 * w)) (hc : c ≤ 9999999) : ∀ n, n ≤ cN s (23 + 48 * w + k) → ∀ x ∈ shs_ s w k c day n, GL s x := by
  have h11 := isN_lt (wc_np hC) (by decide)
  intro n
  induction n with
  | zero => intro _ x hx; simp [shs_] at hx
  | succ n ih =>
    intro hn x hx
    rw [shs_, List.mem_append] at hx
    rcases hx with hx | hx
    · exact ih (by omega) x hx
    · have h1 := sum_ge (prt_ s w k c) (show n < cN s (23 + 48 * w + k) from hn)
      have h2 := prt_le hW c hw hk
      exact pl_GL hA w _ _ day hw (isN_lt (ww_hp hW w k n hw hk hn) (by omega)) (by omega) h11 x hx
theorem dv_GL {s : Nat → Int32} (hC : WC s) (hW : WW s) (hA : WA s) (day : Nat) : ∀ v st, v ≤ cN s 1 → lsm_ st.2 + sum_ st.1 v ≤ 9999999 → (∀ x ∈ st.2, GL s x) → ∀ x ∈ (dv_ s day v st).2, GL s x := by
  intro v
  induction v with
  | zero => exact fun st _ _ h => h
  | succ v ih =>
    intro st hv hs h
    have hws := wk_sum hC hW hA day (show v < cN s 1 by omega) st
    refine ih (wk_ s day v st) (by omega) (by omega) ?_
    unfold wk_
    by_cases h0 : st.1 v = 0
    · rw [if_pos h0]; exact h
    · rw [if_neg h0]
      intro x hx
      have hx : x ∈ st.2 ++ _ := hx
      rw [List.mem_append] at hx
      rcases hx with hx | hx
      · exact h x hx
      · rw [sum_s] at hs
        exact shs_GL hC hW hA v _ _ day (by omega) (spl_lt hW v day (by omega)) (by omega) _ (Nat.le_refl _) x hx
theorem dvd_GL {s : Nat → Int32} (hC : WC s) (hW : WW s) (hA : WA s) (day w a : Nat) (hw : w < cN s 1) (ha : a ≤ 9999999) : ∀ x ∈ (dvd_ s day w a).2, GL s x := by
  have hsum : sum_ (fun u => if u = w then a else 0) (w + 1) = a := sum_pt (w + 1) w a (Nat.lt_succ_self w)
  exact dv_GL hC hW hA day (w + 1) _ hw (by show 0 + sum_ (fun u => if u = w then a else 0) (w + 1) ≤ _; omega) (fun x hx => by cases hx)
theorem dvd_lsm {s : Nat → Int32} (hC : WC s) (hW : WW s) (hA : WA s) (day w a : Nat) (hw : w < cN s 1) : lsm_ (dvd_ s day w a).2 ≤ a := by
  have hsum : sum_ (fun u => if u = w then a else 0) (w + 1) = a := sum_pt (w + 1) w a (Nat.lt_succ_self w)
  have h := dv_sum hC hW hA day (w + 1) (fun u => if u = w then a else 0, []) hw
  show lsm_ (dv_ s day (w + 1) _).2 ≤ a
  have h2 : lsm_ ([] : List Ln) = 0 := rfl
  simp only [] at h
  omega
theorem LN.f {m : am_M} {a : Nat} {l : List Ln} (h : LN m a l) (hz : ∀ x ∈ l, x.2.2.2 = 0) : LF m a l (fun _ => 0) := fun i x hx => by
  obtain ⟨h1, h2, h3, h4⟩ := h i x hx
  rw [hz x (List.mem_of_getElem? hx)] at h4
  exact ⟨h1, h2, h3, h4⟩
