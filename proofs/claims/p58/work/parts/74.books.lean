/-! the reference books an income -/
section R74
variable {s : Nat → Int32} {q : Nat → Int64}
theorem wk_ge (hC : WC s) (hW : WW s) (day : Nat) {v : Nat} (hv : v < cN s 1) (st : (Nat → Nat) × List Ln) {u : Nat} (hu : v ≤ u) : (wk_ s day v st).1 u = st.1 u := by
  have hnw := isN_lt (wc_nw hC) (by decide)
  unfold wk_
  by_cases h : st.1 v = 0
  · rw [if_pos h]
  · rw [if_neg h]
    exact sra_ge s v _ _ u _ fun i hi => by
      have := isN_lt (ww_ow hW v i hv hi) (by omega)
      omega
theorem dv_ge (hC : WC s) (hW : WW s) (day : Nat) : ∀ v st, v ≤ cN s 1 → ∀ u, v ≤ u → (dv_ s day v st).1 u = st.1 u := by
  intro v
  induction v with
  | zero => exact fun _ _ _ _ => rfl
  | succ v ih =>
    intro st hv u hu
    show (dv_ s day v (wk_ s day v st)).1 u = _
    rw [ih _ (by omega) u (by omega), wk_ge hC hW day (by omega) st (by omega)]
theorem dv_le (hC : WC s) (hW : WW s) (hA : WA s) (day b : Nat) : ∀ v st, v ≤ cN s 1 → lsm_ st.2 + sum_ st.1 v ≤ b → (∀ u, v ≤ u → st.1 u ≤ b) → ∀ u, (dv_ s day v st).1 u ≤ b := by
  intro v
  induction v with
  | zero => exact fun st _ _ h u => h u (Nat.zero_le _)
  | succ v ih =>
    intro st hv h1 h2
    have h3 := wk_sum hC hW hA day (show v < cN s 1 by omega) st
    refine ih _ (by omega) (by omega) fun u hu => ?_
    rw [wk_ge hC hW day (by omega) st hu]
    by_cases e : u = v
    · rw [e]; rw [sum_s] at h1; omega
    · exact h2 u (by omega)
theorem dvd_le (hC : WC s) (hW : WW s) (hA : WA s) (day w a : Nat) (hw : w < cN s 1) (u : Nat) : (dvd_ s day w a).1 u ≤ a := by
  unfold dvd_
  refine dv_le hC hW hA day a (w + 1) _ (by omega) ?_ (fun u hu => ?_) u
  · show 0 + sum_ (fun u => if u = w then a else 0) (w + 1) ≤ a
    rw [sum_pt _ _ _ (by omega)]; omega
  · show (if u = w then a else 0) ≤ a
    split <;> omega
theorem dvd_hi (hC : WC s) (hW : WW s) (day w a : Nat) (hw : w < cN s 1) {u : Nat} (hu : cN s 1 ≤ u) : (dvd_ s day w a).1 u = 0 := by
  unfold dvd_
  rw [dv_ge hC hW day (w + 1) _ (by omega) u (by omega)]
  exact if_neg (by omega)
theorem wa_hi (hD : WD s) (w p : Nat) (st : Wst) {u : Nat} (hu : cN s 0 ≤ u) (h10 : cN s 0 ≤ 2 ^ 31) : ∀ n, n ≤ cN s 3 → (wa_ s w p st n).2.1 u = st.2.1 u := by
  intro n
  induction n with
  | zero => exact fun _ => rfl
  | succ n ih =>
    intro hn
    rw [wa_s', ← ih (by omega)]
    generalize wa_ s w p st n = t
    unfold wst_
    cases adm_ s w p n with
    | false => rfl
    | true =>
      have := isN_lt (wd_g hD n (by omega)) h10
      exact if_neg (by omega)
theorem wh_hi (hD : WD s) (l : List Ln) {u : Nat} (hu : cN s 0 ≤ u) (h10 : cN s 0 ≤ 2 ^ 31) : ∀ i, (wh_ s l i).2 u = 0 := by
  intro i
  induction i with
  | zero => rfl
  | succ i ih =>
    rw [wh_]
    cases h : l[i]? with
    | none => exact ih
    | some x => exact (wa_hi hD _ _ _ hu h10 _ (Nat.le_refl _)).trans ih
theorem eg_hi {l : List Ln} (hG : ∀ x ∈ l, GL s x) {p : Nat} (hp : cN s 0 ≤ p) : ∀ i, eg_ l p i = 0 := by
  intro i
  induction i with
  | zero => rfl
  | succ i ih =>
    cases hx : l[i]? with
    | none => rw [eg_, hx, ih]; rfl
    | some x =>
      have := (hG x (List.mem_of_getElem? hx)).2.1
      rw [eg_s hx, ih, if_neg (by omega)]
/-- a number of a line -/
def lnv_ (s : Nat → Int32) (l : List Ln) (j : Nat) : Int32 := match l[j / 4]? with
  | some x => if j % 4 = 0 then nI x.1 else if j % 4 = 1 then nI x.2.1 else if j % 4 = 2 then nI x.2.2.1 else nI (wd_ s l (j / 4))
  | none => 0
/-- the rows behind a booking -/
def bS_ (s : Nat → Int32) (l : List Ln) (k : Nat) : Int32 := if k = 6 then nI l.length else if 767 ≤ k ∧ k < 767 + 4 * l.length then lnv_ s l (k - 767) else if 690 ≤ k ∧ k < 762 ∧ (k - 690) % 6 = 5 then nI ((wh_ s l l.length).1 ((k - 690) / 6)) else s k
def bN_ (s : Nat → Int32) (l : List Ln) (f : Nat → Nat) (k : Nat) : Nat := (if 200 ≤ k ∧ k < 212 then f (k - 200) else 0) + bD2 (fun u => og_ s l u l.length + (wh_ s l l.length).2 u) (fun u => (wh_ s l l.length).2 u) 10 k + bD3 s l l.length k
def bQ_ (s : Nat → Int32) (l : List Ln) (f : Nat → Nat) (q : Nat → Int64) (k : Nat) : Int64 := q k + (nI (bN_ s l f k)).toInt64
theorem LF.v {m : am_M} {a : Nat} {l : List Ln} (h : LF m a l (wd_ s l)) (j : Nat) (hj : j < 4 * l.length) : gi_ m a j = lnv_ s l j := by
  unfold lnv_
  have hx : l[j / 4]? = some l[j / 4] := List.getElem?_eq_getElem (by omega)
  generalize l[j / 4] = x at hx
  rw [hx]
  obtain ⟨k0, k1, k2, k3⟩ := h _ x hx
  show _ = (if j % 4 = 0 then nI x.1 else if j % 4 = 1 then nI x.2.1 else if j % 4 = 2 then nI x.2.2.1 else nI (wd_ s l (j / 4)))
  by_cases c0 : j % 4 = 0
  · rw [if_pos c0, ← k0]; congr 1; omega
  · rw [if_neg c0]
    by_cases c1 : j % 4 = 1
    · rw [if_pos c1, ← k1]; congr 1; omega
    · rw [if_neg c1]
      by_cases c2 : j % 4 = 2
      · rw [if_pos c2, ← k2]; congr 1; omega
      · rw [if_neg c2, ← k3]; congr 1; omega
theorem wh_le (hD : WD s) {l : List Ln} {b : Nat} (h : lsm_ l ≤ b) (u : Nat) : (wh_ s l l.length).2 u ≤ b := by
  have := wh_ret hD l u l.length
  rw [List.take_length] at this
  omega
theorem og_b {l : List Ln} {b : Nat} (h : lsm_ l ≤ b) (p i : Nat) (hi : i ≤ l.length) : og_ s l p i ≤ b := by
  have h1 := eg_b h p i hi
  have h2 := dw_og (s := s) (l := l) p i
  omega
theorem bD2_b {G R : Nat → Nat} {b : Nat} (hG : ∀ u, G u ≤ b) (hR : ∀ u, R u ≤ b) (i k : Nat) : bD2 G R i k ≤ b := by
  unfold bD2
  repeat' split
  all_goals first | exact Nat.zero_le _ | exact hG _ | exact hR _
theorem bN_b (hD : WD s) {l : List Ln} {f : Nat → Nat} (h : lsm_ l ≤ 9999999) (hf : ∀ u, f u ≤ 9999999) (k : Nat) : bN_ s l f k ≤ 4 * 9999999 := by
  have h1 := bD3_b (s := s) h l.length k (Nat.le_refl _)
  have h2 := bD2_b (G := fun u => og_ s l u l.length + (wh_ s l l.length).2 u) (R := fun u => (wh_ s l l.length).2 u) (b := 2 * 9999999) (fun u => by
    have := wh_le hD h u
    have := og_b (s := s) h u l.length (Nat.le_refl _)
    show og_ s l u l.length + (wh_ s l l.length).2 u ≤ _
    omega) (fun u => by have := wh_le hD h u; show (wh_ s l l.length).2 u ≤ _; omega) 10 k
  have h3 := hf (k - 200)
  unfold bN_
  split <;> omega
variable {sa sv d N B : Nat} {m : am_M}
end R74
