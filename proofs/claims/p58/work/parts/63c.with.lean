/-! the class lets the lines of an income withhold -/
section R63
variable {sa sv d N o : Nat} {m : am_M} {s : Nat → Int32} {q : Nat → Int64}
theorem wh_bd (hD : WD s) (l : List Ln) (i a : Nat) (ha : a < 12) : (wh_ s l i).1 a < 2 ^ 30 := by
  have h1 := wh_open s l a i
  by_cases h : a < cN s 3
  · have h2 := isN_lt (wd_o hD a h) (by decide)
    omega
  · have h2 := wd_z hD a (by omega) ha
    have h3 : cN s (690 + 6 * a + 5) = 0 := by unfold cN; rw [h2]; rfl
    omega
theorem x39 {day : Nat} (hP : PD m N o s q day) (hC : WC s) (hD : WD s) {l : List Ln} (hl : l.length ≤ 64) (hG : ∀ x ∈ l, GL s x) (hL : LF m (N + 22) l (fun _ => 0)) (hr : gi_ m (N + 21) 2 = nI l.length) :
    ∃ m', am_ca sa sv (d + 3) 39 [.ref (N + 14)] m = some (.inl none, m') ∧ Fr (DW N) m m' ∧ LF m' (N + 22) l (wd_ s l) ∧ (∀ a, a < 12 → gi_ m' (N + 19) a = nI ((wh_ s l l.length).1 a)) ∧ (∀ p, p < 10 → gi_ m' (N + 20) p = nI ((wh_ s l l.length).2 p)) := by
  have hX0 := hP.1
  have hnd := isN_lt (wc_nd hC) (by decide)
  have hnp := isN_lt (wc_np hC) (by decide)
  obtain ⟨m1, g1, g2, g3⟩ := x368 (sa := sa) (sv := sv) (d := d + 1) (m := m) (N + 20) 10 (nI 0) (xk20 hX0) (by omega)
  have hF1 : Fr (DW N) m m1 := g2.mono fun _ _ h => Or.inr (Or.inl h)
  have lfM : ∀ {m1 m2 : am_M} {g : Nat → Nat}, LF m1 (N + 22) l g → Fr (fun b _ => b = N + 19 ∨ b = N + 20) m1 m2 → LF m2 (N + 22) l g := by
    intro m1 m2 g h hf i x hx
    obtain ⟨k0, k1, k2, k3⟩ := h i x hx
    have e := fun k => hf.2.1 (N + 22) k (by omega)
    exact ⟨(e _).trans k0, (e _).trans k1, (e _).trans k2, (e _).trans k3⟩
  have hL1 := lfM hL (g2.mono fun _ _ h => Or.inr h)
  obtain ⟨m2, h1, f1, f2, f3⟩ := lp_inv (fun i m1 => r39 sa sv (d + 2) 10 [some (.ref (N + 14)), some (.int (nI i)), none] [] m1) (fun i m2 => Fr (fun b _ => b = N + 19 ∨ b = N + 20) m1 m2 ∧ (∀ p, p < 10 → gi_ m2 (N + 20) p = nI 0) ∧ ∀ k, k < i → gi_ m2 (N + 19) k = nI (cN s (690 + 6 * k + 5))) 12 (fun i m2 hi ⟨f1, f2, f3⟩ => by
    obtain ⟨hX2, hO2, hV2, -, -, -, hg9, -, -, -⟩ := hP.frQ ((hF1.trans (f1.mono fun _ _ h => by rcases h with h | h; exact Or.inl h; exact Or.inr (Or.inl h))).mono fun _ _ h => DW.q h)
    have hg9' : ¬ gr_ m2 (N + 14) 9 = 0 := by rw [hg9]; omega
    have e5 : s (690 + 6 * i + 5) = nI (cN s (690 + 6 * i + 5)) := by
      by_cases h : i < cN s 3
      · exact ((wd_o hD i h).c (by decide)).1
      · have h2 := wd_z hD i (by omega) hi
        unfold cN; rw [h2]; rfl
    refine ⟨si_ m2 (N + 19) i (nI (cN s (690 + 6 * i + 5))), ?_, f1.si (Or.inl rfl), fun p hp => by rw [gi_si, if_neg (by omega)]; exact f2 p hp, fun k hk => ?_⟩
    · show r39 sa sv (d + 2) 10 _ [] m2 = _
      rw [b39_10, gb_neg (by rw [nI_leE (by omega) (by omega)]; omega)]
      simp (disch := omega) only [gq_true, gb_true, gb_false, true_and, and_true, eq_self, not_false_eq_true, not_true_eq_false, true_or, or_true, false_or, or_false, false_and, and_false, c0_v, ci_v, cl_v, cf_v, pk_mul, nI_add, nI_clamp, nI_lt0, nI_0le, nI_eq0, nI_lt0r, nI_ltE, nI_leE, nI_eqE, nI_m1, in_t, ba0, ba1, Nat.one_ne_zero, Nat.reduceEqDiff, Nat.reduceLeDiff, Nat.add_eq_zero_iff, xk14 hX2, xr14_4 hX2, xk19 hX2, eq_false hg9', hg9, ok15 hO2, xad hO2 hV2 i 5 (by omega) (by omega)]
      rw [e5]
    · rw [gi_si]
      by_cases e : k = i
      · rw [if_pos ⟨rfl, e⟩, e]
      · rw [if_neg (fun z => e z.2)]; exact f3 k (by omega)) m1 ⟨Fr.refl _ _, g3, fun k h => by omega⟩
  have hF2 : Fr (DW N) m m2 := hF1.trans (f1.mono fun _ _ h => by rcases h with h | h; exact Or.inl h; exact Or.inr (Or.inl h))
  have hL2 := lfM hL1 f1
  have step : ∀ j i m3 (o2 : Option Value), i + j = l.length → Fr (DW N) m m3 → LF m3 (N + 22) l (fun k => if k < i then wd_ s l k else 0) → (∀ a, a < 12 → gi_ m3 (N + 19) a = nI ((wh_ s l i).1 a)) → (∀ p, p < 10 → gi_ m3 (N + 20) p = nI ((wh_ s l i).2 p)) → ∃ m', r39 sa sv (d + 2) 50 [some (.ref (N + 14)), some (.int (nI i)), o2] [] m3 = some (.inl none, m') ∧ Fr (DW N) m m' ∧ LF m' (N + 22) l (wd_ s l) ∧ (∀ a, a < 12 → gi_ m' (N + 19) a = nI ((wh_ s l l.length).1 a)) ∧ (∀ p, p < 10 → gi_ m' (N + 20) p = nI ((wh_ s l l.length).2 p)) := by
    intro j
    induction j with
    | zero =>
      intro i m3 o2 hij hF3 hL3 ho3 hr3
      obtain rfl : i = l.length := by omega
      have hX3 := (hP.frQ (hF3.mono fun _ _ h => DW.q h)).1
      have e2 : gi_ m3 (N + 21) 2 = nI l.length := (hF3.2.1 _ _ (by rintro (z | z | z) <;> omega)).trans hr
      refine ⟨m3, ?_, hF3, fun k x hx => ?_, ho3, hr3⟩
      · rw [b39_50]
        simp (disch := omega) only [gq_true, gb_true, gb_false, true_and, and_true, eq_self, not_false_eq_true, not_true_eq_false, true_or, or_true, false_or, or_false, false_and, and_false, c0_v, ci_v, cl_v, cf_v, pk_mul, nI_add, nI_clamp, nI_lt0, nI_0le, nI_eq0, nI_lt0r, nI_ltE, nI_leE, nI_eqE, nI_m1, in_t, ba0, ba1, Nat.one_ne_zero, Nat.reduceEqDiff, Nat.reduceLeDiff, Nat.add_eq_zero_iff, xk14 hX3, xr14_6 hX3, xk21 hX3, e2, Nat.le_refl]
      · obtain ⟨k0, k1, k2, k3⟩ := hL3 k x hx
        have hk := (List.getElem?_eq_some_iff.mp hx).1
        exact ⟨k0, k1, k2, by rw [k3]; show nI (if k < l.length then _ else 0) = _; rw [if_pos hk]⟩
    | succ j ih =>
      intro i m3 o2 hij hF3 hL3 ho3 hr3
      have hi : i < l.length := by omega
      have hx : l[i]? = some l[i] := List.getElem?_eq_getElem hi
      generalize l[i] = x at hx
      have hGx := hG x (List.mem_of_getElem? hx)
      have hP3 := hP.frQ (hF3.mono fun _ _ h => DW.q h)
      obtain ⟨hX3, hO3, hV3, -, -, -, -, -, -, hs3⟩ := hP3
      have e2 : gi_ m3 (N + 21) 2 = nI l.length := (hF3.2.1 _ _ (by rintro (z | z | z) <;> omega)).trans hr
      obtain ⟨k0, k1, k2, k3⟩ := hL3 i x hx
      have hp : x.2.1 < cN s 0 := hGx.2.1
      have hwh : wh_ s l (i + 1) = ((wa_ s x.1 x.2.1 ((wh_ s l i).1, (wh_ s l i).2, x.2.2.1) (cN s 3)).1, (wa_ s x.1 x.2.1 ((wh_ s l i).1, (wh_ s l i).2, x.2.2.1) (cN s 3)).2.1) := by
        rw [wh_, hx]
      have hwd : wd_ s l i = x.2.2.1 - (wa_ s x.1 x.2.1 ((wh_ s l i).1, (wh_ s l i).2, x.2.2.1) (cN s 3)).2.2 := by
        unfold wd_; rw [hx]
      have hXm := msk_lt (fun a => decide (cN s (690 + 6 * a + 1) = x.2.1)) (cN s 3)
      have hX16 : msk_ (fun a => decide (cN s (690 + 6 * a + 1) = x.2.1)) (cN s 3) < 2 ^ 16 := Nat.lt_of_lt_of_le hXm (Nat.pow_le_pow_right (by decide) (by omega))
      rw [b39_50]
      simp (disch := omega) only [gq_true, gb_true, gb_false, true_and, and_true, eq_self, not_false_eq_true, not_true_eq_false, true_or, or_true, false_or, or_false, false_and, and_false, c0_v, ci_v, cl_v, cf_v, pk_mul, nI_add, nI_clamp, nI_lt0, nI_0le, nI_eq0, nI_lt0r, nI_ltE, nI_leE, nI_eqE, nI_m1, in_t, ba0, ba1, Nat.one_ne_zero, Nat.reduceEqDiff, Nat.reduceLeDiff, Nat.add_eq_zero_iff, xk14 hX3, xr14_6 hX3, xk21 hX3, e2]
      rw [gb_neg (by omega)]
      simp (disch := omega) only [gq_true, gb_true, gb_false, true_and, and_true, eq_self, not_false_eq_true, not_true_eq_false, true_or, or_true, false_or, or_false, false_and, and_false, c0_v, ci_v, cl_v, cf_v, pk_mul, nI_add, nI_clamp, nI_lt0, nI_0le, nI_eq0, nI_lt0r, nI_ltE, nI_leE, nI_eqE, nI_m1, in_t, ba0, ba1, Nat.one_ne_zero, Nat.reduceEqDiff, Nat.reduceLeDiff, Nat.add_eq_zero_iff, xk14 hX3, xr14_6 hX3, xr14_2 hX3, xk21 hX3, xln hX3 i 1 (by omega) (by omega), k1, x33 (N + 17) 10 x.2.1 (xk17 hX3) (by omega) (by omega), hs3 x.2.1 (by omega)]
      by_cases hz : msk_ (fun a => decide (cN s (690 + 6 * a + 1) = x.2.1)) (cN s 3) = 0
      · have hid : wa_ s x.1 x.2.1 ((wh_ s l i).1, (wh_ s l i).2, x.2.2.1) (cN s 3) = ((wh_ s l i).1, (wh_ s l i).2, x.2.2.1) := by
          refine wa_tail s x.1 x.2.1 _ (Nat.zero_le _) fun a _ ha => ?_
          have h3 := msk_tb (fun a => decide (cN s (690 + 6 * a + 1) = x.2.1)) a (cN s 3)
          rw [hz, decide_eq_true ha, Bool.true_and, Nat.zero_testBit] at h3
          unfold adm_
          rw [← h3]; rfl
        rw [hid] at hwh hwd
        have hwd : wd_ s l i = 0 := by rw [hwd]; exact Nat.sub_self _
        obtain ⟨m', r1, r2⟩ := ih (i + 1) m3 (some (.int (nI 0))) (by omega) hF3 (fun k y hy => by
          obtain ⟨k0, k1, k2, k3⟩ := hL3 k y hy
          refine ⟨k0, k1, k2, k3.trans ?_⟩
          show nI (if k < i then wd_ s l k else 0) = nI (if k < i + 1 then wd_ s l k else 0)
          by_cases e : k < i
          · rw [if_pos e, if_pos (by omega)]
          · rw [if_neg e]
            by_cases e2 : k = i
            · rw [if_pos (by omega), e2, hwd]
            · rw [if_neg (by omega)]) (by rw [hwh]; exact ho3) (by rw [hwh]; exact hr3)
        refine ⟨m', ?_, r2⟩
        rw [hz, gb_pos rfl]
        exact r1
      · obtain ⟨m4, q1, q2, q3, q4, q5⟩ := x40 (sa := sa) (sv := sv) (d := d) (hP.frQ (hF3.mono fun _ _ h => DW.q h)) hC hD hl i x hx hGx hL3 ho3 (fun a ha => wh_bd hD l i a ha) hr3
        obtain ⟨m', r1, r2⟩ := ih (i + 1) m4 (some (.int (nI (msk_ (fun a => decide (cN s (690 + 6 * a + 1) = x.2.1)) (cN s 3))))) (by omega) (hF3.trans q2) (fun k y hy => by
          obtain ⟨k0, k1, k2, k3⟩ := q3 k y hy
          refine ⟨k0, k1, k2, k3.trans ?_⟩
          show nI (if k = i then x.2.2.1 - (wa_ s x.1 x.2.1 ((wh_ s l i).1, (wh_ s l i).2, x.2.2.1) (cN s 3)).2.2 else if k < i then wd_ s l k else 0) = nI (if k < i + 1 then wd_ s l k else 0)
          by_cases e : k = i
          · rw [if_pos e, if_pos (by omega), e, hwd]
          · rw [if_neg e]
            by_cases e2 : k < i
            · rw [if_pos e2, if_pos (by omega)]
            · rw [if_neg e2, if_neg (by omega)]) (by rw [hwh]; exact q4) (by rw [hwh]; exact q5)
        refine ⟨m', ?_, r2⟩
        rw [gb_neg hz, q1, c0_v]
        exact r1
  have hX1 := (hP.frQ (hF1.mono fun _ _ h => DW.q h)).1
  have hX2 := (hP.frQ (hF2.mono fun _ _ h => DW.q h)).1
  have h0 := step l.length 0 m2 none (Nat.zero_add _) hF2 (fun k x hx => by
    obtain ⟨k0, k1, k2, k3⟩ := hL2 k x hx
    exact ⟨k0, k1, k2, k3⟩) (fun a ha => f3 a ha) (fun p hp => f2 p hp)
  obtain ⟨m', r1, r2⟩ := h0
  refine ⟨m', ?_, r2⟩
  rw [c39, b39_0]
  simp (disch := omega) only [gq_true, gb_true, gb_false, true_and, and_true, eq_self, not_false_eq_true, not_true_eq_false, true_or, or_true, false_or, or_false, false_and, and_false, c0_v, ci_v, cl_v, cf_v, pk_mul, nI_add, nI_clamp, nI_lt0, nI_0le, nI_eq0, nI_lt0r, nI_ltE, nI_leE, nI_eqE, nI_m1, in_t, ba0, ba1, Nat.one_ne_zero, Nat.reduceEqDiff, Nat.reduceLeDiff, Nat.add_eq_zero_iff, xk14 hX0, xr14_5 hX0]
  rw [g1, c0_v]
  refine h1.trans ?_
  show r39 sa sv (d + 2) 10 _ [] m2 = _
  rw [b39_10]
  simp (disch := omega) only [gq_true, gb_true, gb_false, true_and, and_true, eq_self, not_false_eq_true, not_true_eq_false, true_or, or_true, false_or, or_false, false_and, and_false, c0_v, ci_v, cl_v, cf_v, pk_mul, nI_add, nI_clamp, nI_lt0, nI_0le, nI_eq0, nI_lt0r, nI_ltE, nI_leE, nI_eqE, nI_m1, in_t, ba0, ba1, Nat.one_ne_zero, Nat.reduceEqDiff, Nat.reduceLeDiff, Nat.add_eq_zero_iff, Nat.le_refl]
  exact r1
end R63
