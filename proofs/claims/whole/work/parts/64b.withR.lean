/-! the reference lets the lines of an income withhold -/
/-- what p has of the first i lines, after withholding -/
def og_ (s : Nat → Int32) (l : List Ln) (p : Nat) : Nat → Nat
  | 0 => 0
  | i + 1 => og_ s l p i + match l[i]? with
    | some x => if p = x.2.1 then x.2.2.1 - wd_ s l i else 0
    | none => 0
/-- what p has of the first i lines -/
def eg_ (l : List Ln) (p : Nat) : Nat → Nat
  | 0 => 0
  | i + 1 => eg_ l p i + match l[i]? with
    | some x => if p = x.2.1 then x.2.2.1 else 0
    | none => 0
section R64
variable {sa sv d N : Nat} {m : am_M} {s : Nat → Int32} {q : Nat → Int64}
theorem wh_s {s : Nat → Int32} {l : List Ln} {i : Nat} {x : Ln} (hx : l[i]? = some x) : wh_ s l (i + 1) = ((wa_ s x.1 x.2.1 ((wh_ s l i).1, (wh_ s l i).2, x.2.2.1) (cN s 3)).1, (wa_ s x.1 x.2.1 ((wh_ s l i).1, (wh_ s l i).2, x.2.2.1) (cN s 3)).2.1) := by
  rw [wh_, hx]
theorem wd_i {s : Nat → Int32} {l : List Ln} {i : Nat} {x : Ln} (hx : l[i]? = some x) : wd_ s l i = x.2.2.1 - (wa_ s x.1 x.2.1 ((wh_ s l i).1, (wh_ s l i).2, x.2.2.1) (cN s 3)).2.2 := by
  unfold wd_; rw [hx]
theorem og_s {s : Nat → Int32} {l : List Ln} {i : Nat} {x : Ln} (hx : l[i]? = some x) (p : Nat) : og_ s l p (i + 1) = if p = x.2.1 then og_ s l p i + (wa_ s x.1 x.2.1 ((wh_ s l i).1, (wh_ s l i).2, x.2.2.1) (cN s 3)).2.2 else og_ s l p i := by
  have h1 := wa_left s x.1 x.2.1 ((wh_ s l i).1, (wh_ s l i).2, x.2.2.1) (cN s 3)
  have h1 : (wa_ s x.1 x.2.1 ((wh_ s l i).1, (wh_ s l i).2, x.2.2.1) (cN s 3)).2.2 ≤ x.2.2.1 := h1
  rw [og_, hx]
  show og_ s l p i + (if p = x.2.1 then x.2.2.1 - wd_ s l i else 0) = _
  by_cases e : p = x.2.1
  · rw [if_pos e, if_pos e, wd_i hx]; omega
  · rw [if_neg e, if_neg e]; rfl
theorem y329 (hR : RS m N s q) (hC : WC s) (hD : WD s) {l : List Ln} (hl : l.length ≤ 64) (hG : ∀ x ∈ l, GL s x) (hL : LF m (N + 255) l (fun _ => 0)) (hr : gi_ m (N + 243) 33 = nI l.length) :
    ∃ m', am_ca sa sv (d + 3) 329 [.ref (N + 243)] m = some (.inl none, m') ∧ Fr (RW N) m m' ∧ LF m' (N + 255) l (wd_ s l) ∧ (∀ a, a < 12 → gi_ m' (N + 257) a = nI ((wh_ s l l.length).1 a)) ∧ (∀ p, p < 10 → gi_ m' (N + 259) p = nI ((wh_ s l l.length).2 p)) ∧ (∀ p, p < 10 → gi_ m' (N + 258) p = nI (og_ s l p l.length + (wh_ s l l.length).2 p)) := by
  have hX0 := hR.1
  obtain ⟨m1, g1, g2, g3⟩ := lp_inv (fun i m1 => r329 sa sv (d + 2) 2 [some (.ref (N + 243)), some (.int (nI i))] [] m1) (fun i m2 => Fr (fun b _ => b = N + 257) m m2 ∧ ∀ k, k < i → gi_ m2 (N + 257) k = nI (cN s (690 + 6 * k + 5))) 12 (fun i m2 hi ⟨f1, f3⟩ => by
    have hR2 := hR.fr (f1.mono fun _ _ h => RW.x (Or.inr (Or.inl h)))
    have hX2 := hR2.1
    have e5 : s (690 + 6 * i + 5) = nI (cN s (690 + 6 * i + 5)) := by
      by_cases h : i < cN s 3
      · exact ((wd_o hD i h).c (by decide)).1
      · have h2 := wd_z hD i (by omega) hi
        unfold cN; rw [h2]; rfl
    refine ⟨si_ m2 (N + 257) i (nI (cN s (690 + 6 * i + 5))), ?_, f1.si rfl, fun k hk => ?_⟩
    · show r329 sa sv (d + 2) 2 _ [] m2 = _
      rw [b329_2, gb_neg (by rw [nI_leE (by omega) (by omega)]; omega)]
      simp (disch := omega) only [gq_true, gb_true, gb_false, true_and, and_true, eq_self, not_false_eq_true, not_true_eq_false, true_or, or_true, false_or, or_false, false_and, and_false, c0_v, ci_v, cl_v, cf_v, pk_mul, nI_add, nI_clamp, nI_lt0, nI_0le, nI_eq0, nI_lt0r, nI_ltE, nI_leE, nI_eqE, nI_m1, in_t, ba0, ba1, Nat.one_ne_zero, Nat.reduceEqDiff, Nat.reduceLeDiff, Nat.add_eq_zero_iff, rk243 hR2, rr15 hR2, rk245 hR2, rr19 hR2, rk249 hR2, rs hR2, rq hR2, xr243_30 hX2, y258 hR2 i 5 (by omega), xk257 hX2]
      rw [e5]
    · rw [gi_si]
      by_cases e : k = i
      · rw [if_pos ⟨rfl, e⟩, e]
      · rw [if_neg (fun z => e z.2)]; exact f3 k (by omega)) m ⟨Fr.refl _ _, fun k h => by omega⟩
  obtain ⟨m2, h1, h2, h3, h4⟩ := lp_inv (fun i m1 => r329 sa sv (d + 2) 28 [some (.ref (N + 243)), some (.int (nI i))] [] m1) (fun i m2 => Fr (fun b _ => b = N + 258 ∨ b = N + 259) m1 m2 ∧ (∀ k, k < i → gi_ m2 (N + 258) k = nI 0) ∧ ∀ k, k < i → gi_ m2 (N + 259) k = nI 0) 10 (fun i m2 hi ⟨f1, f2, f3⟩ => by
    have hR2 := (hR.fr (g2.mono fun _ _ h => RW.x (Or.inr (Or.inl h)))).fr (f1.mono fun _ _ h => RW.x (Or.inr (Or.inr h)))
    have hX2 := hR2.1
    refine ⟨si_ (si_ m2 (N + 258) i (nI 0)) (N + 259) i (nI 0), ?_, (f1.si (Or.inl rfl)).si (Or.inr rfl), fun k hk => ?_, fun k hk => ?_⟩
    · show r329 sa sv (d + 2) 28 _ [] m2 = _
      rw [b329_28, gb_neg (by rw [nI_leE (by omega) (by omega)]; omega)]
      simp (disch := omega) only [gq_true, gb_true, gb_false, true_and, and_true, eq_self, not_false_eq_true, not_true_eq_false, true_or, or_true, false_or, or_false, false_and, and_false, c0_v, ci_v, cl_v, cf_v, pk_mul, nI_add, nI_clamp, nI_lt0, nI_0le, nI_eq0, nI_lt0r, nI_ltE, nI_leE, nI_eqE, nI_m1, in_t, ba0, ba1, Nat.one_ne_zero, Nat.reduceEqDiff, Nat.reduceLeDiff, Nat.add_eq_zero_iff, rk243 hR2, rr15 hR2, rk245 hR2, rr19 hR2, rk249 hR2, rs hR2, rq hR2, xr243_31 hX2, xr243_32 hX2, xk258 hX2, xk259 hX2]
    · rw [gi_si, if_neg (by omega), gi_si]
      by_cases e : k = i
      · rw [if_pos ⟨rfl, e⟩]
      · rw [if_neg (fun z => e z.2)]; exact f2 k (by omega)
    · rw [gi_si]
      by_cases e : k = i
      · rw [if_pos ⟨rfl, e⟩]
      · rw [if_neg (fun z => e z.2), gi_si, if_neg (by omega)]; exact f3 k (by omega)) m1 ⟨Fr.refl _ _, fun k h => by omega, fun k h => by omega⟩
  have hF2 : Fr (RW N) m m2 := (g2.mono fun _ _ h => Or.inr (Or.inl h)).trans (h2.mono fun _ _ h => Or.inr (Or.inr h))
  have g3' : ∀ k, k < 12 → gi_ m2 (N + 257) k = nI (cN s (690 + 6 * k + 5)) := fun k hk => (h2.2.1 _ _ (by omega)).trans (g3 k hk)
  have hL2 : LF m2 (N + 255) l (fun _ => 0) := by
    intro i x hx
    obtain ⟨k0, k1, k2, k3⟩ := hL i x hx
    have e := fun k => (h2.2.1 (N + 255) k (by omega)).trans (g2.2.1 (N + 255) k (by omega))
    exact ⟨(e _).trans k0, (e _).trans k1, (e _).trans k2, (e _).trans k3⟩
  obtain ⟨m3, q1, q2, q3, q4, q5, q6⟩ := lp_inv (fun i m1 => r329 sa sv (d + 2) 56 [some (.ref (N + 243)), some (.int (nI i))] [] m1) (fun i m3 => Fr (RW N) m m3 ∧ LF m3 (N + 255) l (fun k => if k < i then wd_ s l k else 0) ∧ (∀ a, a < 12 → gi_ m3 (N + 257) a = nI ((wh_ s l i).1 a)) ∧ (∀ p, p < 10 → gi_ m3 (N + 259) p = nI ((wh_ s l i).2 p)) ∧ (∀ p, p < 10 → gi_ m3 (N + 258) p = nI (og_ s l p i + (wh_ s l i).2 p))) l.length (fun i m3 hi ⟨f1, f2, f3, f4, f5⟩ => by
    have hR3 := hR.fr (f1.mono fun _ _ h => RW.x h)
    have hX3 := hR3.1
    have hx : l[i]? = some l[i] := List.getElem?_eq_getElem hi
    generalize l[i] = x at hx
    have hGx := hG x (List.mem_of_getElem? hx)
    have e2 : gi_ m3 (N + 243) 33 = nI l.length := (f1.2.1 _ _ (by rintro (z | z | z | z) <;> omega)).trans hr
    obtain ⟨m4, r1, r2, r3, r4, r5, r6⟩ := y330 (sa := sa) (sv := sv) (d := d) hR3 hC hD hl i x hx hGx f2 f3 (fun a ha => wh_bd hD l i a ha) f4 f5
    refine ⟨m4, ?_, f1.trans r2, fun k y hy => ?_, by rw [wh_s hx]; exact r4, by rw [wh_s hx]; exact r5, fun p hp => by rw [wh_s hx, og_s hx]; exact r6 p hp⟩
    · show r329 sa sv (d + 2) 56 _ [] m3 = _
      rw [b329_56]
      simp (disch := omega) only [gq_true, gb_true, gb_false, true_and, and_true, eq_self, not_false_eq_true, not_true_eq_false, true_or, or_true, false_or, or_false, false_and, and_false, c0_v, ci_v, cl_v, cf_v, pk_mul, nI_add, nI_clamp, nI_lt0, nI_0le, nI_eq0, nI_lt0r, nI_ltE, nI_leE, nI_eqE, nI_m1, in_t, ba0, ba1, Nat.one_ne_zero, Nat.reduceEqDiff, Nat.reduceLeDiff, Nat.add_eq_zero_iff, rk243 hR3, e2]
      rw [gb_neg (by omega), Nat.mul_comm 4 i, r1, c0_v]
    · obtain ⟨k0, k1, k2, k3⟩ := r3 k y hy
      refine ⟨k0, k1, k2, k3.trans ?_⟩
      show nI (if k = i then x.2.2.1 - (wa_ s x.1 x.2.1 ((wh_ s l i).1, (wh_ s l i).2, x.2.2.1) (cN s 3)).2.2 else if k < i then wd_ s l k else 0) = nI (if k < i + 1 then wd_ s l k else 0)
      by_cases e : k = i
      · rw [if_pos e, if_pos (by omega), e, wd_i hx]
      · rw [if_neg e]
        by_cases e2 : k < i
        · rw [if_pos e2, if_pos (by omega)]
        · rw [if_neg e2, if_neg (by omega)]) m2 ⟨hF2, fun k x hx => by
    obtain ⟨k0, k1, k2, k3⟩ := hL2 k x hx
    exact ⟨k0, k1, k2, k3⟩, g3', h4, h3⟩
  have hR3 := hR.fr (q2.mono fun _ _ h => RW.x h)
  have e2 : gi_ m3 (N + 243) 33 = nI l.length := (q2.2.1 _ _ (by rintro (z | z | z | z) <;> omega)).trans hr
  refine ⟨m3, ?_, q2, fun k x hx => ?_, q4, q5, q6⟩
  · rw [c329, b329_0]
    refine g1.trans ?_
    show r329 sa sv (d + 2) 2 _ [] m1 = _
    rw [b329_2]
    simp (disch := omega) only [gq_true, gb_true, gb_false, true_and, and_true, eq_self, not_false_eq_true, not_true_eq_false, true_or, or_true, false_or, or_false, false_and, and_false, c0_v, ci_v, cl_v, cf_v, pk_mul, nI_add, nI_clamp, nI_lt0, nI_0le, nI_eq0, nI_lt0r, nI_ltE, nI_leE, nI_eqE, nI_m1, in_t, ba0, ba1, Nat.one_ne_zero, Nat.reduceEqDiff, Nat.reduceLeDiff, Nat.add_eq_zero_iff, Nat.le_refl]
    refine h1.trans ?_
    show r329 sa sv (d + 2) 28 _ [] m2 = _
    rw [b329_28]
    simp (disch := omega) only [gq_true, gb_true, gb_false, true_and, and_true, eq_self, not_false_eq_true, not_true_eq_false, true_or, or_true, false_or, or_false, false_and, and_false, c0_v, ci_v, cl_v, cf_v, pk_mul, nI_add, nI_clamp, nI_lt0, nI_0le, nI_eq0, nI_lt0r, nI_ltE, nI_leE, nI_eqE, nI_m1, in_t, ba0, ba1, Nat.one_ne_zero, Nat.reduceEqDiff, Nat.reduceLeDiff, Nat.add_eq_zero_iff, Nat.le_refl]
    refine q1.trans ?_
    show r329 sa sv (d + 2) 56 _ [] m3 = _
    rw [b329_56]
    simp (disch := omega) only [gq_true, gb_true, gb_false, true_and, and_true, eq_self, not_false_eq_true, not_true_eq_false, true_or, or_true, false_or, or_false, false_and, and_false, c0_v, ci_v, cl_v, cf_v, pk_mul, nI_add, nI_clamp, nI_lt0, nI_0le, nI_eq0, nI_lt0r, nI_ltE, nI_leE, nI_eqE, nI_m1, in_t, ba0, ba1, Nat.one_ne_zero, Nat.reduceEqDiff, Nat.reduceLeDiff, Nat.add_eq_zero_iff, rk243 hR3, e2, Nat.le_refl]
  · obtain ⟨k0, k1, k2, k3⟩ := q3 k x hx
    have hk := (List.getElem?_eq_some_iff.mp hx).1
    exact ⟨k0, k1, k2, by rw [k3]; show nI (if k < l.length then _ else 0) = _; rw [if_pos hk]⟩
end R64
