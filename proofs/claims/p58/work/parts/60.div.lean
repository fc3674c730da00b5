/-! an income divided: the numbers -/
abbrev Ln : Type := Nat × Nat × Nat × Nat
/-- the row at a holds these lines -/
def LN (m : am_M) (a : Nat) (l : List Ln) : Prop := ∀ i x, l[i]? = some x → gi_ m a (i * 4) = nI x.1 ∧ gi_ m a (i * 4 + 1) = nI x.2.1 ∧ gi_ m a (i * 4 + 2) = nI x.2.2.1 ∧ gi_ m a (i * 4 + 3) = nI x.2.2.2
theorem LN.nil (m : am_M) (a : Nat) : LN m a [] := fun i x h => by simp at h
theorem LN.push {m m' : am_M} {a : Nat} {l : List Ln} {x : Ln} (h : LN m a l) (hk : ∀ k, k < l.length * 4 → gi_ m' a k = gi_ m a k) (h0 : gi_ m' a (l.length * 4) = nI x.1) (h1 : gi_ m' a (l.length * 4 + 1) = nI x.2.1) (h2 : gi_ m' a (l.length * 4 + 2) = nI x.2.2.1) (h3 : gi_ m' a (l.length * 4 + 3) = nI x.2.2.2) : LN m' a (l ++ [x]) := by
  intro i y hy
  by_cases e : i < l.length
  · rw [List.getElem?_append_left e] at hy
    rw [hk _ (by omega), hk _ (by omega), hk _ (by omega), hk _ (by omega)]
    exact h i y hy
  · rw [List.getElem?_append_right (by omega)] at hy
    have e2 : i - l.length = 0 := by
      by_cases z : i - l.length = 0
      · exact z
      · rw [List.getElem?_eq_none (by show 1 ≤ _; omega)] at hy; cases hy
    rw [e2] at hy
    have e3 : x = y := Option.some.inj hy
    have e4 : i = l.length := by omega
    subst e3; subst e4
    exact ⟨h0, h1, h2, h3⟩
theorem LN.eq {m m' : am_M} {a : Nat} {l : List Ln} (h : LN m a l) (hk : gi_ m' a = gi_ m a) : LN m' a l := fun i x hx => by rw [hk]; exact h i x hx
/-- does the assignment a take of p's part of w on a day -/
def asm_ (s : Nat → Int32) (w p day a : Nat) : Bool := decide (cN s (594 + 6 * a + 0) = p ∧ cN s (594 + 6 * a + 1) = w) && isf_ s a day
def asg_ (s : Nat → Int32) (w p part day : Nat) : Nat → List Ln
  | 0 => []
  | n + 1 => asg_ s w p part day n ++ (if asm_ s w p day n = true ∧ 0 < part * cN s (594 + 6 * n + 3) / 100 then [(w, cN s (594 + 6 * n + 2), part * cN s (594 + 6 * n + 3) / 100, 0)] else [])
def asu_ (s : Nat → Int32) (w p part day n : Nat) : Nat := sum_ (fun a => bif asm_ s w p day a then part * cN s (594 + 6 * a + 3) / 100 else 0) n
/-- the lines of a part of p -/
def pl_ (s : Nat → Int32) (w p part day : Nat) : List Ln := asg_ s w p part day (cN s 2) ++ (if 0 < part - asu_ s w p part day (cN s 2) then [(w, p, part - asu_ s w p part day (cN s 2), 0)] else [])
theorem sum_s (f : Nat → Nat) (n : Nat) : sum_ f (n + 1) = sum_ f n + f n := rfl
theorem sum_mono (f : Nat → Nat) {a b : Nat} (h : a ≤ b) : sum_ f a ≤ sum_ f b := by
  obtain ⟨k, rfl⟩ := Nat.exists_eq_add_of_le h
  induction k with
  | zero => exact Nat.le_refl _
  | succ k ih => exact Nat.le_trans (ih (by omega)) (Nat.le_add_right _ _)
theorem sum_le {f g : Nat → Nat} : ∀ {n : Nat}, (∀ i, i < n → f i ≤ g i) → sum_ f n ≤ sum_ g n
  | 0, _ => Nat.le_refl _
  | n + 1, h => Nat.add_le_add (sum_le fun i hi => h i (by omega)) (h n (by omega))
theorem sum_cg {f g : Nat → Nat} : ∀ {n : Nat}, (∀ i, i < n → f i = g i) → sum_ f n = sum_ g n
  | 0, _ => rfl
  | n + 1, h => by rw [sum_s, sum_s, sum_cg fun i hi => h i (by omega), h n (by omega)]
theorem sum_pc (c : Nat) (f : Nat → Nat) : ∀ n, sum_ (fun i => c * f i / 100) n ≤ c * sum_ f n / 100 := by
  intro n
  induction n with
  | zero => exact Nat.zero_le _
  | succ n ih =>
    rw [sum_s, sum_s, Nat.mul_add]
    omega
theorem asu_le {s : Nat → Int32} (hA : WA s) (w p part day : Nat) {n : Nat} (hn : n ≤ cN s 2) : asu_ s w p part day n ≤ part := by
  have h1 : asu_ s w p part day n ≤ sum_ (fun a => part * (bif asm_ s w p day a then cN s (594 + 6 * a + 3) else 0) / 100) n := by
    refine sum_le fun i _ => ?_
    cases asm_ s w p day i with
    | true => exact Nat.le_refl _
    | false => exact Nat.zero_le _
  have h2 := sum_pc part (fun a => bif asm_ s w p day a then cN s (594 + 6 * a + 3) else 0) n
  have h3 : sum_ (fun a => bif asm_ s w p day a then cN s (594 + 6 * a + 3) else 0) n ≤ 100 := by
    refine Nat.le_trans (Nat.le_trans (sum_mono _ hn) ?_) (wa_s hA p w day)
    refine sum_le fun i _ => ?_
    unfold asm_ isf_
    by_cases h : cN s (594 + 6 * i + 0) = p ∧ cN s (594 + 6 * i + 1) = w
    · rw [decide_eq_true h, Bool.true_and]
      by_cases h2 : cN s (594 + 6 * i + 4) ≤ day ∧ day < cN s (594 + 6 * i + 5)
      · rw [decide_eq_true h2, cond_true, if_pos ⟨h.1, h.2, h2⟩]; exact Nat.le_refl _
      · rw [decide_eq_false h2, cond_false]; exact Nat.zero_le _
    · rw [decide_eq_false h, Bool.false_and, cond_false]; exact Nat.zero_le _
  refine Nat.le_trans h1 (Nat.le_trans h2 (Nat.div_le_of_le_mul ?_))
  rw [Nat.mul_comm 100]
  exact Nat.mul_le_mul_left _ h3
/-- the lines of the shares of a split: c is divided -/
def shp_ (s : Nat → Int32) (w k c j : Nat) : Nat := c * cN s (43 + 48 * w + 4 * k + j) / 100
def cts_ (s : Nat → Int32) (w k c : Nat) : Nat := c - sum_ (shp_ s w k c) (cN s (23 + 48 * w + k))
def prt_ (s : Nat → Int32) (w k c j : Nat) : Nat := shp_ s w k c j + (if j < cts_ s w k c then 1 else 0)
def shs_ (s : Nat → Int32) (w k c day : Nat) : Nat → List Ln
  | 0 => []
  | n + 1 => shs_ s w k c day n ++ pl_ s w (cN s (27 + 48 * w + 4 * k + n)) (prt_ s w k c n) day
theorem shp_le {s : Nat → Int32} (hW : WW s) {w k : Nat} (c : Nat) (hw : w < cN s 1) (hk : k < cN s (18 + 48 * w)) {n : Nat} (hn : n ≤ cN s (23 + 48 * w + k)) : sum_ (shp_ s w k c) n ≤ c := by
  have h1 := sum_pc c (fun j => cN s (43 + 48 * w + 4 * k + j)) n
  have h2 := sum_mono (fun j => cN s (43 + 48 * w + 4 * k + j)) hn
  rw [ww_hs hW w k hw hk] at h2
  refine Nat.le_trans h1 (Nat.div_le_of_le_mul ?_)
  rw [Nat.mul_comm 100]
  exact Nat.mul_le_mul_left _ h2
theorem sum_one (t : Nat) : ∀ n, sum_ (fun j => if j < t then 1 else 0) n ≤ t := by
  intro n
  have : sum_ (fun j => if j < t then 1 else 0) n = min n t := by
    induction n with
    | zero => rw [Nat.zero_min]; rfl
    | succ n ih => rw [sum_s, ih]; split <;> omega
  omega
theorem sum_add (f g : Nat → Nat) : ∀ n, sum_ (fun i => f i + g i) n = sum_ f n + sum_ g n := by
  intro n
  induction n with
  | zero => rfl
  | succ n ih => rw [sum_s, sum_s, sum_s, ih]; omega
theorem prt_le {s : Nat → Int32} (hW : WW s) {w k : Nat} (c : Nat) (hw : w < cN s 1) (hk : k < cN s (18 + 48 * w)) : sum_ (prt_ s w k c) (cN s (23 + 48 * w + k)) ≤ c := by
  have h1 := shp_le hW c hw hk (Nat.le_refl _)
  have h2 := sum_one (cts_ s w k c) (cN s (23 + 48 * w + k))
  have h3 := sum_add (shp_ s w k c) (fun j => if j < cts_ s w k c then 1 else 0) (cN s (23 + 48 * w + k))
  have h4 : sum_ (prt_ s w k c) (cN s (23 + 48 * w + k)) = _ := h3
  unfold cts_ at h2 h4
  omega
theorem sum_ge (f : Nat → Nat) {j n : Nat} (h : j < n) : f j ≤ sum_ f n := by
  have h1 := sum_mono f (show j + 1 ≤ n from h)
  rw [sum_s] at h1
  omega
/-- the sources of a work get their parts of c -/
def sra_ (s : Nat → Int32) (w c : Nat) : Nat → (Nat → Nat) → (Nat → Nat)
  | 0, f => f
  | n + 1, f => fun u => sra_ s w c n f u + (if u = cN s (60 + 48 * w + n) then c * cN s (63 + 48 * w + n) / 100 else 0)
def srp_ (s : Nat → Int32) (w c n : Nat) : Nat := sum_ (fun i => c * cN s (63 + 48 * w + i) / 100) n
theorem srp_le {s : Nat → Int32} (hW : WW s) {w : Nat} (c : Nat) (hw : w < cN s 1) {n : Nat} (hn : n ≤ cN s (59 + 48 * w)) : srp_ s w c n ≤ c := by
  have h1 := sum_pc c (fun j => cN s (63 + 48 * w + j)) n
  have h2 := sum_mono (fun j => cN s (63 + 48 * w + j)) hn
  have h3 := ww_os hW w hw
  refine Nat.le_trans h1 (Nat.div_le_of_le_mul ?_)
  rw [Nat.mul_comm 100]
  exact Nat.mul_le_mul_left _ (by omega)
/-- one work: its sources, then its shares -/
def wk_ (s : Nat → Int32) (day v : Nat) (st : (Nat → Nat) × List Ln) : (Nat → Nat) × List Ln :=
  if st.1 v = 0 then st else (sra_ s v (st.1 v) (cN s (59 + 48 * v)) st.1, st.2 ++ shs_ s v (spl_ s v day) (st.1 v - srp_ s v (st.1 v) (cN s (59 + 48 * v))) day (cN s (23 + 48 * v + spl_ s v day)))
def dv_ (s : Nat → Int32) (day : Nat) : Nat → (Nat → Nat) × List Ln → (Nat → Nat) × List Ln
  | 0, st => st
  | v + 1, st => dv_ s day v (wk_ s day v st)
def dvd_ (s : Nat → Int32) (day w a : Nat) : (Nat → Nat) × List Ln := dv_ s day (w + 1) (fun u => if u = w then a else 0, [])
/-- the amounts of lines together -/
def lsm_ : List Ln → Nat
  | [] => 0
  | x :: l => x.2.2.1 + lsm_ l
theorem lsm_app (l l' : List Ln) : lsm_ (l ++ l') = lsm_ l + lsm_ l' := by
  induction l with
  | nil => exact (Nat.zero_add _).symm
  | cons x l ih => show x.2.2.1 + lsm_ (l ++ l') = x.2.2.1 + lsm_ l + lsm_ l'; rw [ih]; omega
theorem asg_lsm (s : Nat → Int32) (w p part day : Nat) : ∀ n, lsm_ (asg_ s w p part day n) = asu_ s w p part day n := by
  intro n
  induction n with
  | zero => rfl
  | succ n ih =>
    rw [asg_, lsm_app, ih]
    show _ = asu_ s w p part day n + (bif asm_ s w p day n then part * cN s (594 + 6 * n + 3) / 100 else 0)
    congr 1
    cases h : asm_ s w p day n with
    | false => rw [if_neg (by rintro ⟨z, -⟩; cases z)]; rfl
    | true =>
      by_cases h2 : 0 < part * cN s (594 + 6 * n + 3) / 100
      · rw [if_pos ⟨rfl, h2⟩]; rfl
      · rw [if_neg (fun z => h2 z.2), cond_true]; show 0 = _; omega
theorem pl_lsm {s : Nat → Int32} (hA : WA s) (w p part day : Nat) : lsm_ (pl_ s w p part day) = part := by
  have h := asu_le hA w p part day (Nat.le_refl _)
  rw [pl_, lsm_app, asg_lsm]
  by_cases h2 : 0 < part - asu_ s w p part day (cN s 2)
  · rw [if_pos h2]; show asu_ s w p part day (cN s 2) + (part - asu_ s w p part day (cN s 2) + 0) = part; omega
  · rw [if_neg h2]; show asu_ s w p part day (cN s 2) + 0 = part; omega
theorem shs_lsm {s : Nat → Int32} (hA : WA s) (w k c day : Nat) : ∀ n, lsm_ (shs_ s w k c day n) = sum_ (prt_ s w k c) n := by
  intro n
  induction n with
  | zero => rfl
  | succ n ih => rw [shs_, lsm_app, ih, pl_lsm hA]; rfl
theorem sra_ge (s : Nat → Int32) (w c : Nat) (f : Nat → Nat) (u : Nat) : ∀ n, (∀ i, i < n → ¬ u = cN s (60 + 48 * w + i)) → sra_ s w c n f u = f u := by
  intro n
  induction n with
  | zero => exact fun _ => rfl
  | succ n ih =>
    intro h
    show sra_ s w c n f u + (if u = cN s (60 + 48 * w + n) then c * cN s (63 + 48 * w + n) / 100 else 0) = f u
    rw [if_neg (h n (by omega)), ih fun i hi => h i (by omega)]; rfl
theorem sum_pt (n j x : Nat) (h : j < n) : sum_ (fun u => if u = j then x else 0) n = x := by
  have key : ∀ k, sum_ (fun u => if u = j then x else 0) k = if j < k then x else 0 := by
    intro k
    induction k with
    | zero => rfl
    | succ k ih => rw [sum_s, ih]; split <;> split <;> (try split) <;> omega
  rw [key n, if_pos h]
theorem sra_sum {s : Nat → Int32} (hW : WW s) {w : Nat} (hw : w < cN s 1) (hw31 : w ≤ 2 ^ 31) (c : Nat) (f : Nat → Nat) : ∀ n, n ≤ cN s (59 + 48 * w) → sum_ (sra_ s w c n f) w = sum_ f w + srp_ s w c n := by
  intro n
  induction n with
  | zero => exact fun _ => rfl
  | succ n ih =>
    intro hn
    have h1 := isN_lt (ww_ow hW w n hw (by omega)) hw31
    have e : sum_ (sra_ s w c (n + 1) f) w = sum_ (sra_ s w c n f) w + sum_ (fun u => if u = cN s (60 + 48 * w + n) then c * cN s (63 + 48 * w + n) / 100 else 0) w := sum_add _ _ w
    rw [e, ih (by omega), sum_pt w _ _ h1]
    show _ = _ + (srp_ s w c n + c * cN s (63 + 48 * w + n) / 100)
    omega
theorem wk_sum {s : Nat → Int32} (hC : WC s) (hW : WW s) (hA : WA s) (day : Nat) {v : Nat} (hv : v < cN s 1) (st : (Nat → Nat) × List Ln) : lsm_ (wk_ s day v st).2 + sum_ (wk_ s day v st).1 v ≤ lsm_ st.2 + sum_ st.1 (v + 1) := by
  unfold wk_
  by_cases h : st.1 v = 0
  · rw [if_pos h, sum_s]; omega
  · rw [if_neg h]
    have h13 := isN_lt (wc_nw hC) (by decide)
    show lsm_ (st.2 ++ _) + sum_ (sra_ s v (st.1 v) (cN s (59 + 48 * v)) st.1) v ≤ _
    rw [lsm_app, shs_lsm hA, sra_sum hW hv (by omega) _ _ _ (Nat.le_refl _), sum_s]
    have h1 := prt_le hW (st.1 v - srp_ s v (st.1 v) (cN s (59 + 48 * v))) hv (spl_lt hW v day hv)
    have h2 := srp_le hW (st.1 v) hv (Nat.le_refl _)
    omega
/-- all along the way the amounts stay within what came -/
theorem dv_sum {s : Nat → Int32} (hC : WC s) (hW : WW s) (hA : WA s) (day : Nat) : ∀ v st, v ≤ cN s 1 → lsm_ (dv_ s day v st).2 ≤ lsm_ st.2 + sum_ st.1 v := by
  intro v
  induction v with
  | zero => intro st _; exact Nat.le_add_right _ _
  | succ v ih =>
    intro st hv
    have h1 := ih (wk_ s day v st) (by omega)
    have h2 := wk_sum hC hW hA day (show v < cN s 1 by omega) st
    exact Nat.le_trans h1 h2
