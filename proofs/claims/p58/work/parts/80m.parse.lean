/-! shares: the class, the list of them, their sum -/
section I80
variable {sa sv d N o : Nat} {m : am_M} {b : Nat → Nat} {n T i : Nat} {s : Nat → Int32} {q : Nat → Int64} {l : List (Nat × Nat)}
theorem sShare_len {x : Nat × List (Nat × Nat)} (h : sShare s q b n l i = .inr x) : x.2.length = l.length + 1 ∧ l.length ≠ 4 := by
  unfold sShare at h
  split at h
  · split at h
    · split at h
      · cases h
      · split at h
        · cases h
        · rename_i h4
          cases hn : sNum b n 1 100 (i + 1) with
          | inl e => rw [hn] at h; cases h
          | inr y =>
            rw [hn] at h
            have h5 := (Sum.inr.inj h).symm
            rw [h5]
            exact ⟨by show (l ++ [_]).length = _; rw [List.length_append]; rfl, h4⟩
    · cases h
  · cases h
theorem x123_23 (hC : WC s) : ∀ f k l i m, k + f = 4 → l.length = k + 1 → CT m N b n T i → SR m N o s q → CH m N l → CW N m (PS N) (fun _ => none) (fun j l' m' => CT m' N b n T j ∧ CH m' N l' ∧ i ≤ j) (if Kd b n i = 2 then sShl s q b n f l i else .inr (i, l)) (r123 sa sv (d + 3) 23 [some (.ref (N + 7)), some (.int (nI k))] [] m) := by
  intro f
  induction f with
  | zero =>
    intro k l i m hk hl h hS hH
    obtain rfl : k = 4 := by omega
    have := hH.2.1
    omega
  | succ f ih =>
    intro k l i m hk hl h hS hH
    have e1 := x142 (sa := sa) (sv := sv) (d := d + 2) h
    have hK := Kd_lt b n i
    have e2 := x124 (sa := sa) (sv := sv) (d := d) h hS hC hH
    rw [b123_23, gb_neg (by rw [nI_leE (by omega) (by omega)]; omega)]
    simp (disch := omega) only [gq_true, gb_true, gb_false, true_and, and_true, eq_self, not_false_eq_true, not_true_eq_false, true_or, or_true, false_or, or_false, false_and, and_false, c0_v, ci_v, cl_v, cf_v, pk_mul, nI_add, nI_clamp, nI_lt0, nI_0le, nI_eq0, nI_lt0r, nI_ltE, nI_leE, nI_eqE, nI_m1, in_t, ba0, ba1, Nat.one_ne_zero, Nat.reduceEqDiff, Nat.reduceLeDiff, Nat.add_eq_zero_iff, xk7 h.1, xr7_0 h.1, xk2 h.1, e1]
    by_cases e : Kd b n i = 2
    · rw [gb_pos e, if_pos e]
      unfold sShl
      cases hs : sShare s q b n l i with
      | inl er =>
        rw [hs] at e2
        obtain ⟨m', q1, q2, q3⟩ := e2
        exact ⟨m', by rw [q1, c0_x, xg_v], q2, q3⟩
      | inr x =>
        rw [hs] at e2
        obtain ⟨m', q1, q2, q3, q4, q5⟩ := e2
        obtain ⟨l1, l2⟩ := sShare_len hs
        have := ih (k + 1) x.2 x.1 m' (by omega) (by omega) q3 (hS.frS q2 (fun _ _ z => z)) q4
        rw [q1, c0_v]
        show CW N m (PS N) _ _ (if Kd b n x.1 = 2 then sShl s q b n f x.2 x.1 else .inr x) _
        cases hr : (if Kd b n x.1 = 2 then sShl s q b n f x.2 x.1 else .inr x) with
        | inl er =>
          rw [show (if Kd b n x.1 = 2 then sShl s q b n f x.2 x.1 else .inr (x.1, x.2)) = .inl er from hr] at this
          exact CE.mono this q2 (fun _ _ z => z)
        | inr y =>
          rw [show (if Kd b n x.1 = 2 then sShl s q b n f x.2 x.1 else .inr (x.1, x.2)) = .inr y from hr] at this
          obtain ⟨m2, p1, p2, p3, p4, p5⟩ := this
          exact ⟨m2, p1, q2.trans p2, p3, p4, by omega⟩
    · rw [gb_neg e, if_neg e]
      exact ⟨m, rfl, Fr.refl _ _, h, hH, Nat.le_refl _⟩
theorem x123 (h : CT m N b n T i) (hS : SR m N o s q) (hC : WC s) : CW N m (PS N) (fun _ => none) (fun j l' m' => CT m' N b n T j ∧ CH m' N l' ∧ i < j) (sShs s q b n i) (am_ca sa sv (d + 4) 123 [.ref (N + 7)] m) := by
  have e1 := x144 (sa := sa) (sv := sv) (d := d + 1) h 22 (by decide) (by decide)
  rw [c123, b123_0]
  simp (disch := omega) only [gq_true, gb_true, gb_false, true_and, and_true, eq_self, not_false_eq_true, not_true_eq_false, true_or, or_true, false_or, or_false, false_and, and_false, c0_v, ci_v, cl_v, cf_v, pk_mul, nI_add, nI_clamp, nI_lt0, nI_0le, nI_eq0, nI_lt0r, nI_ltE, nI_leE, nI_eqE, nI_m1, in_t, ba0, ba1, Nat.one_ne_zero, Nat.reduceEqDiff, Nat.reduceLeDiff, Nat.add_eq_zero_iff, xk7 h.1, xr7_0 h.1, xk2 h.1]
  unfold sShs
  cases ht : sTake b n 22 i with
  | inl er =>
    rw [ht] at e1
    obtain ⟨m', q1, q2, q3⟩ := e1
    exact ⟨m', by rw [q1, c0_x, xg_v], q2.mono fun a k z => Or.inl z, q3⟩
  | inr x =>
    rw [ht] at e1
    have e2 : am_ca sa sv (d + 3) 144 [.ref (N + 2), .int (nI 22)] m = some (.inl none, stp m N x.1) := e1
    have hx : x.1 = i + 1 ∧ Kd b n i = 22 := by
      unfold sTake at ht
      split at ht
      · rename_i k2
        rw [← Sum.inr.inj ht]; exact ⟨rfl, k2⟩
      · cases ht
    have hc1 := h.set (show x.1 ≤ T by have := h.lt (show ¬ Kd b n i = 0 by omega); omega)
    have hF : Fr (PS N) m (si_ (stp m N x.1) (N + 8) 2 (nI 0)) := Fr.si (P := PS N) (Fr.si (P := PS N) (Fr.refl _ _) (Or.inl ⟨rfl, by omega, by omega⟩)) (Or.inr (Or.inr ⟨rfl, rfl⟩))
    have hF' : Fr (fun a k => a = N + 9 ∨ (a = N + 8 ∧ k = 2)) (stp m N x.1) (si_ (stp m N x.1) (N + 8) 2 (nI 0)) := (Fr.refl _ _).si (Or.inr ⟨rfl, rfl⟩)
    have hc2 := hc1.frS hF' (fun _ _ z => z)
    have hH2 : CH (si_ (stp m N x.1) (N + 8) 2 (nI 0)) N [] := ⟨by rw [gi_si, if_pos ⟨rfl, rfl⟩]; rfl, by show 0 ≤ 4; omega, fun j y hy => by simp at hy⟩
    have hS2 := hS.frS hF (fun _ _ z => z)
    rw [e2, c0_v]
    simp (disch := omega) only [gq_true, gb_true, gb_false, true_and, and_true, eq_self, not_false_eq_true, not_true_eq_false, true_or, or_true, false_or, or_false, false_and, and_false, c0_v, ci_v, cl_v, cf_v, pk_mul, nI_add, nI_clamp, nI_lt0, nI_0le, nI_eq0, nI_lt0r, nI_ltE, nI_leE, nI_eqE, nI_m1, in_t, ba0, ba1, Nat.one_ne_zero, Nat.reduceEqDiff, Nat.reduceLeDiff, Nat.add_eq_zero_iff, xk7 hc1.1, xr7_1 hc1.1, xk8 hc1.1]
    generalize si_ (stp m N x.1) (N + 8) 2 (nI 0) = m2 at *
    have e3 := x124 (sa := sa) (sv := sv) (d := d) hc2 hS2 hC hH2
    show CW N m (PS N) _ _ (eb (sShare s q b n [] x.1) fun y => if Kd b n y.1 = 2 then sShl s q b n 4 y.2 y.1 else .inr y) _
    cases hs : sShare s q b n [] x.1 with
    | inl er =>
      rw [hs] at e3
      obtain ⟨m', q1, q2, q3⟩ := e3
      exact ⟨m', by rw [q1, c0_x, xg_v], hF.trans q2, q3⟩
    | inr y =>
      rw [hs] at e3
      obtain ⟨m', q1, q2, q3, q4, q5⟩ := e3
      obtain ⟨l1, l2⟩ := sShare_len hs
      have := x123_23 (sa := sa) (sv := sv) (d := d) hC 4 0 y.2 y.1 m' (by omega) l1 q3 (hS2.frS q2 (fun _ _ z => z)) q4
      rw [q1, c0_v]
      show CW N m (PS N) _ _ (if Kd b n y.1 = 2 then sShl s q b n 4 y.2 y.1 else .inr y) _
      cases hr : (if Kd b n y.1 = 2 then sShl s q b n 4 y.2 y.1 else .inr y) with
      | inl er =>
        rw [show (if Kd b n y.1 = 2 then sShl s q b n 4 y.2 y.1 else .inr (y.1, y.2)) = .inl er from hr] at this
        exact CE.mono this (hF.trans q2) (fun _ _ z => z)
      | inr z =>
        rw [show (if Kd b n y.1 = 2 then sShl s q b n 4 y.2 y.1 else .inr (y.1, y.2)) = .inr z from hr] at this
        obtain ⟨m2, p1, p2, p3, p4, p5⟩ := this
        exact ⟨m2, p1, (hF.trans q2).trans p2, p3, p4, by omega⟩
theorem lsum_take {k : Nat} {x : Nat × Nat} (hx : l[k]? = some x) : lsum (l.take (k + 1)) = lsum (l.take k) + x.2 := by
  unfold lsum
  rw [List.take_succ, hx, List.map_append, List.sum_append]
  simp
theorem lsum_b (h : ∀ (j : Nat) (x : Nat × Nat), l[j]? = some x → x.2 ≤ 100) : lsum l ≤ 100 * l.length := by
  have key : ∀ k, k ≤ l.length → lsum (l.take k) ≤ 100 * k := by
    intro k
    induction k with
    | zero => exact fun _ => Nat.le_refl _
    | succ k ih =>
      intro hk
      have hx : l[k]? = some l[k] := List.getElem?_eq_getElem (by omega)
      have h1 := h k _ hx
      rw [lsum_take hx]
      have := ih (by omega)
      omega
  have := key l.length (Nat.le_refl _)
  rwa [List.take_length] at this
theorem x125 (hX : XS m N) (hH : CH m N l) : am_ca sa sv (d + 2) 125 [.ref (N + 7)] m = some (.inl (some (.int (nI (if lsum l = 100 then 0 else 1)))), m) := by
  obtain ⟨t1, t2, t3⟩ := hH
  have hb := lsum_b (fun j x hx => (t3 j x hx).2.1)
  have step : ∀ j k, k + j = l.length → r125 sa sv (d + 1) 4 [some (.ref (N + 7)), some (.int (nI (lsum (l.take k)))), some (.int (nI k))] [] m = some (.inl (some (.int (nI (if lsum l = 100 then 0 else 1)))), m) := by
    intro j
    induction j with
    | zero =>
      intro k hk
      obtain rfl : k = l.length := by omega
      rw [List.take_length, b125_4]
      simp (disch := omega) only [gq_true, gb_true, gb_false, true_and, and_true, eq_self, not_false_eq_true, not_true_eq_false, true_or, or_true, false_or, or_false, false_and, and_false, c0_v, ci_v, cl_v, cf_v, pk_mul, nI_add, nI_clamp, nI_lt0, nI_0le, nI_eq0, nI_lt0r, nI_ltE, nI_leE, nI_eqE, nI_m1, in_t, ba0, ba1, Nat.one_ne_zero, Nat.reduceEqDiff, Nat.reduceLeDiff, Nat.add_eq_zero_iff, xk7 hX, xr7_1 hX, xk8 hX, t1, Nat.le_refl]
      by_cases e : lsum l = 100
      · rw [gb_pos e, if_pos e]
      · rw [gb_neg e, if_neg e]
    | succ j ih =>
      intro k hk
      have hx : l[k]? = some l[k] := List.getElem?_eq_getElem (by omega)
      have h1 := ih (k + 1) (by omega)
      generalize l[k] = x at hx
      obtain ⟨a1, a2, a3, a4⟩ := t3 k x hx
      rw [lsum_take hx] at h1
      rw [b125_4]
      simp (disch := omega) only [gq_true, gb_true, gb_false, true_and, and_true, eq_self, not_false_eq_true, not_true_eq_false, true_or, or_true, false_or, or_false, false_and, and_false, c0_v, ci_v, cl_v, cf_v, pk_mul, nI_add, nI_clamp, nI_lt0, nI_0le, nI_eq0, nI_lt0r, nI_ltE, nI_leE, nI_eqE, nI_m1, in_t, ba0, ba1, Nat.one_ne_zero, Nat.reduceEqDiff, Nat.reduceLeDiff, Nat.add_eq_zero_iff, xk7 hX, xr7_1 hX, xk8 hX, t1, eq_false (show ¬ l.length ≤ k by omega), tb_at (xt8 hX) (by decide : 8 < 2 ^ 20) k 1 (by omega), a4]
      exact h1
  rw [c125, b125_0]
  exact step l.length 0 (by omega)
end I80
