/-! no cent is lost: the numbers -/
section P8
variable {s : Nat → Int32} {l : List Ln}
theorem sum_pcr (c : Nat) (f : Nat → Nat) : ∀ n, c * sum_ f n ≤ 100 * sum_ (fun j => c * f j / 100) n + 99 * n := by
  intro n
  induction n with
  | zero => exact Nat.zero_le _
  | succ n ih =>
    rw [sum_s, sum_s, Nat.mul_add]
    have := Nat.div_add_mod (c * f n) 100
    have := Nat.mod_lt (c * f n) (show 0 < 100 by decide)
    omega
theorem sum_oneE (t : Nat) : ∀ n, sum_ (fun j => if j < t then 1 else 0) n = min n t := by
  intro n
  induction n with
  | zero => rw [Nat.zero_min]; rfl
  | succ n ih => rw [sum_s, ih]; split <;> omega
theorem prt_eq (hW : WW s) {w k : Nat} (c : Nat) (hw : w < cN s 1) (hk : k < cN s (18 + 48 * w)) : sum_ (prt_ s w k c) (cN s (23 + 48 * w + k)) = c := by
  have h1 := shp_le hW c hw hk (Nat.le_refl _)
  have h2 := sum_oneE (cts_ s w k c) (cN s (23 + 48 * w + k))
  have h3 := sum_add (shp_ s w k c) (fun j => if j < cts_ s w k c then 1 else 0) (cN s (23 + 48 * w + k))
  have h4 : sum_ (prt_ s w k c) (cN s (23 + 48 * w + k)) = _ := h3
  have h5 : c * sum_ (fun j => cN s (43 + 48 * w + 4 * k + j)) (cN s (23 + 48 * w + k)) ≤ 100 * sum_ (shp_ s w k c) (cN s (23 + 48 * w + k)) + 99 * cN s (23 + 48 * w + k) := sum_pcr c (fun j => cN s (43 + 48 * w + 4 * k + j)) (cN s (23 + 48 * w + k))
  rw [ww_hs hW w k hw hk] at h5
  rw [h2] at h4
  unfold cts_ at h4
  omega
theorem wk_sumE (hC : WC s) (hW : WW s) (hA : WA s) (day : Nat) {v : Nat} (hv : v < cN s 1) (st : (Nat → Nat) × List Ln) : lsm_ (wk_ s day v st).2 + sum_ (wk_ s day v st).1 v = lsm_ st.2 + sum_ st.1 (v + 1) := by
  unfold wk_
  by_cases h : st.1 v = 0
  · rw [if_pos h, sum_s]; omega
  · rw [if_neg h]
    have h13 := isN_lt (wc_nw hC) (by decide)
    show lsm_ (st.2 ++ _) + sum_ (sra_ s v (st.1 v) (cN s (59 + 48 * v)) st.1) v = _
    rw [lsm_app, shs_lsm hA, sra_sum hW hv (by omega) _ _ _ (Nat.le_refl _), sum_s]
    have h1 := prt_eq hW (st.1 v - srp_ s v (st.1 v) (cN s (59 + 48 * v))) hv (spl_lt hW v day hv)
    have h2 := srp_le hW (st.1 v) hv (Nat.le_refl _)
    omega
theorem dv_sumE (hC : WC s) (hW : WW s) (hA : WA s) (day : Nat) : ∀ v st, v ≤ cN s 1 → lsm_ (dv_ s day v st).2 = lsm_ st.2 + sum_ st.1 v := by
  intro v
  induction v with
  | zero => intro st _; rfl
  | succ v ih =>
    intro st hv
    have h1 := ih (wk_ s day v st) (by omega)
    have h2 := wk_sumE hC hW hA day (show v < cN s 1 by omega) st
    exact h1.trans h2
theorem dvd_lsmE (hC : WC s) (hW : WW s) (hA : WA s) (day w a : Nat) (hw : w < cN s 1) : lsm_ (dvd_ s day w a).2 = a := by
  have h := dv_sumE hC hW hA day (w + 1) (fun u => if u = w then a else 0, []) (by omega)
  have h2 : sum_ (fun u => if u = w then a else 0) (w + 1) = a := sum_pt (w + 1) w a (by omega)
  exact h.trans ((Nat.zero_add _).trans h2)
theorem dvd_self (hC : WC s) (hW : WW s) (day w a : Nat) (hw : w < cN s 1) : (dvd_ s day w a).1 w = a := by
  show (dv_ s day w (wk_ s day w _)).1 w = a
  rw [dv_ge hC hW day w _ (by omega) w (Nat.le_refl _), wk_ge hC hW day hw _ (Nat.le_refl _)]
  exact if_pos rfl
theorem sum_updp (f : Nat → Nat) {j n : Nat} (x : Nat) (h : j < n) : sum_ (fun u => if u = j then f u + x else f u) n = sum_ f n + x := by
  rw [sum_cg (g := fun u => f u + if u = j then x else 0) (fun i _ => by split <;> rfl), sum_add, sum_pt n j x h]
theorem sum_updm (f : Nat → Nat) {j n : Nat} (x : Nat) (h : j < n) (hx : x ≤ f j) : sum_ (fun b => if b = j then f j - x else f b) n + x = sum_ f n := by
  have h1 := sum_updp (fun b => if b = j then f j - x else f b) x h
  rw [← h1]
  refine sum_cg fun i _ => ?_
  by_cases e : i = j
  · rw [if_pos e, if_pos e, e]; omega
  · rw [if_neg e, if_neg e]
theorem kp_opn (s : Nat → Int32) (a : Nat) (st : Wst) : kp_ s a st ≤ st.1 a := Nat.min_le_right _ _
/-- what a line's advances keep goes back to the givers -/
theorem wa_rtE (hC : WC s) (hD : WD s) (w p : Nat) (st : Wst) : ∀ n, n ≤ cN s 3 → sum_ (wa_ s w p st n).2.1 (cN s 0) + (wa_ s w p st n).2.2 = sum_ st.2.1 (cN s 0) + st.2.2 ∧ sum_ (wa_ s w p st n).2.1 (cN s 0) + sum_ (wa_ s w p st n).1 (cN s 3) = sum_ st.2.1 (cN s 0) + sum_ st.1 (cN s 3) := by
  intro n
  induction n with
  | zero => exact fun _ => ⟨rfl, rfl⟩
  | succ n ih =>
    intro hn
    have b0 := isN_lt (wc_np hC) (by decide)
    have hg := isN_lt (wd_g hD n (by omega)) (by omega)
    have hc := isN_lt (wd_c hD n (by omega)).1 (by decide)
    obtain ⟨i1, i2⟩ := ih (by omega)
    rw [wa_s']
    generalize wa_ s w p st n = t at i1 i2 ⊢
    unfold wst_
    cases adm_ s w p n with
    | false => exact ⟨i1, i2⟩
    | true =>
      have k1 := kp_left (s := s) (a := n) (by omega) t
      have k2 := kp_opn s n t
      have h1 := sum_updp t.2.1 (kp_ s n t) hg
      have h2 := sum_updm t.1 (kp_ s n t) (show n < cN s 3 by omega) k2
      show sum_ (fun u => if u = cN s (690 + 6 * n + 0) then t.2.1 u + kp_ s n t else t.2.1 u) (cN s 0) + (t.2.2 - kp_ s n t) = _ ∧ sum_ (fun u => if u = cN s (690 + 6 * n + 0) then t.2.1 u + kp_ s n t else t.2.1 u) (cN s 0) + sum_ (fun b => if b = n then t.1 n - kp_ s n t else t.1 b) (cN s 3) = _
      omega
theorem wh_i {i : Nat} {x : Ln} (hx : l[i]? = some x) : wh_ s l (i + 1) = ((wa_ s x.1 x.2.1 ((wh_ s l i).1, (wh_ s l i).2, x.2.2.1) (cN s 3)).1, (wa_ s x.1 x.2.1 ((wh_ s l i).1, (wh_ s l i).2, x.2.2.1) (cN s 3)).2.1) := by
  rw [wh_, hx]
/-- after i lines: what givers got is what was withheld, and what advances became less -/
theorem wh_all (hC : WC s) (hD : WD s) (hP : ∀ x ∈ l, x.2.1 < cN s 0) : ∀ i, i ≤ l.length → sum_ (fun p => og_ s l p i) (cN s 0) + sum_ (wh_ s l i).2 (cN s 0) = lsm_ (l.take i) ∧ sum_ (fun p => eg_ l p i) (cN s 0) = lsm_ (l.take i) ∧ sum_ (fun p => dw_ s l p i) (cN s 0) = sum_ (wh_ s l i).2 (cN s 0) ∧ sum_ (wh_ s l i).2 (cN s 0) + sum_ (wh_ s l i).1 (cN s 3) = sum_ (fun a => cN s (690 + 6 * a + 5)) (cN s 3) := by
  intro i
  induction i with
  | zero =>
    intro _
    have z : ∀ n, sum_ (fun _ => 0) n = 0 := fun n => by
      induction n with
      | zero => rfl
      | succ n ih => rw [sum_s, ih]
    have e : sum_ (wh_ s l 0).2 (cN s 0) = 0 := z _
    have e2 : sum_ (fun p => og_ s l p 0) (cN s 0) = 0 := z _
    have e3 : sum_ (fun p => eg_ l p 0) (cN s 0) = 0 := z _
    have e4 : sum_ (fun p => dw_ s l p 0) (cN s 0) = 0 := z _
    refine ⟨by rw [e, e2]; rfl, by rw [e3]; rfl, by rw [e, e4], ?_⟩
    rw [e, Nat.zero_add]; rfl
  | succ i ih =>
    intro hi
    obtain ⟨i1, i2, i3, i4⟩ := ih (by omega)
    have hx : l[i]? = some l[i] := List.getElem?_eq_getElem (by omega)
    have hm := hP l[i] (List.getElem_mem _)
    generalize l[i] = x at hx hm
    have e : l.take (i + 1) = l.take i ++ [x] := by
      rw [List.take_succ, hx]; rfl
    have e1 : lsm_ (l.take (i + 1)) = lsm_ (l.take i) + x.2.2.1 := by rw [e, lsm_app]; rfl
    obtain ⟨r1, r2⟩ := wa_rtE hC hD x.1 x.2.1 ((wh_ s l i).1, (wh_ s l i).2, x.2.2.1) (cN s 3) (Nat.le_refl _)
    have wl := wa_left s x.1 x.2.1 ((wh_ s l i).1, (wh_ s l i).2, x.2.2.1) (cN s 3)
    have wi := wd_i (s := s) hx
    rw [wh_i hx]
    have o1 : sum_ (fun p => og_ s l p (i + 1)) (cN s 0) = sum_ (fun p => og_ s l p i) (cN s 0) + (x.2.2.1 - wd_ s l i) := by
      rw [← sum_pt (cN s 0) x.2.1 (x.2.2.1 - wd_ s l i) hm, ← sum_add]
      exact sum_cg fun p _ => by rw [og_, hx]
    have o2 : sum_ (fun p => eg_ l p (i + 1)) (cN s 0) = sum_ (fun p => eg_ l p i) (cN s 0) + x.2.2.1 := by
      rw [← sum_pt (cN s 0) x.2.1 x.2.2.1 hm, ← sum_add]
      exact sum_cg fun p _ => by rw [eg_, hx]
    have o3 : sum_ (fun p => dw_ s l p (i + 1)) (cN s 0) = sum_ (fun p => dw_ s l p i) (cN s 0) + wd_ s l i := by
      rw [← sum_pt (cN s 0) x.2.1 (wd_ s l i) hm, ← sum_add]
      exact sum_cg fun p _ => by rw [dw_, hx]
    dsimp only at r1 r2 wl ⊢
    omega
theorem ew_all (n p : Nat) (hP : ∀ x ∈ l, x.1 < n) : ∀ i, i ≤ l.length → sum_ (fun w => ew_ l p w i) n = eg_ l p i := by
  intro i
  induction i with
  | zero =>
    intro _
    induction n with
    | zero => rfl
    | succ n ih =>
      rw [sum_s]
      have : ∀ n, sum_ (fun w => ew_ l p w 0) n = 0 := fun n => by
        induction n with
        | zero => rfl
        | succ n ih => rw [sum_s, ih]; rfl
      rw [this]; rfl
  | succ i ih =>
    intro hi
    have hx : l[i]? = some l[i] := List.getElem?_eq_getElem (by omega)
    have hm := hP l[i] (List.getElem_mem _)
    generalize l[i] = x at hx hm
    have i1 := ih (by omega)
    rw [eg_s hx, ← i1, sum_cg (g := fun w => ew_ l p w i + if w = x.1 then (if p = x.2.1 then x.2.2.1 else 0) else 0) (fun w _ => ?_), sum_add, sum_pt n x.1 _ hm]
    rw [ew_s hx]
    by_cases a : p = x.2.1 <;> by_cases b : w = x.1 <;> simp [a, b]
end P8
