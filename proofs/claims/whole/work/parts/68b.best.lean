/-! the best day -/
def bst_ (f : Nat → Nat) (lo : Nat) : Nat → Nat
  | 0 => lo
  | n + 1 => if f (bst_ f lo n) < f (lo + (n + 1)) then lo + (n + 1) else bst_ f lo n
theorem bst_ge (f : Nat → Nat) (lo : Nat) : ∀ n, f (lo + n) ≤ f (bst_ f lo n) := by
  intro n
  cases n with
  | zero => exact Nat.le_refl _
  | succ n =>
    rw [bst_]
    split
    · exact Nat.le_refl _
    · omega
theorem bst_st (f : Nat → Nat) (lo n : Nat) : ∀ j, (∀ i, i ≤ j → f (lo + (n + i)) = f (lo + n)) → bst_ f lo (n + j) = bst_ f lo n := by
  intro j
  induction j with
  | zero => exact fun _ => rfl
  | succ j ih =>
    intro h
    have h1 := ih fun i hi => h i (by omega)
    have h2 := h (j + 1) (Nat.le_refl _)
    have h3 := bst_ge f lo n
    show bst_ f lo (n + j + 1) = _
    rw [bst_, h1, show n + j + 1 = n + (j + 1) by omega, if_neg (by omega)]
theorem bst_le (f : Nat → Nat) (lo : Nat) : ∀ n, bst_ f lo n ≤ lo + n := by
  intro n
  induction n with
  | zero => exact Nat.le_refl _
  | succ n ih => rw [bst_]; split <;> omega
/-- what p earns of an income to w on a day -/
def er_ (s : Nat → Int32) (w a p day : Nat) : Nat := eg_ (dvd_ s day w a).2 p (dvd_ s day w a).2.length
theorem eg_le {l : List Ln} (p : Nat) : ∀ i, i ≤ l.length → eg_ l p i ≤ lsm_ (l.take i) := by
  intro i
  induction i with
  | zero => exact fun _ => Nat.zero_le _
  | succ i ih =>
    intro hi
    have hx : l[i]? = some l[i] := List.getElem?_eq_getElem (by omega)
    generalize l[i] = x at hx
    have e : l.take (i + 1) = l.take i ++ [x] := by
      rw [List.take_succ, hx]; rfl
    rw [e, lsm_app, eg_s hx]
    have := ih (by omega)
    show _ ≤ lsm_ (l.take i) + (x.2.2.1 + 0)
    split <;> omega
theorem er_le {s : Nat → Int32} (hC : WC s) (hW : WW s) (hA : WA s) (w a p day : Nat) (hw : w < cN s 1) : er_ s w a p day ≤ a := by
  have h1 := eg_le (l := (dvd_ s day w a).2) p _ (Nat.le_refl _)
  rw [List.take_length] at h1
  exact Nat.le_trans h1 (dvd_lsm hC hW hA day w a hw)
theorem XS.frX {m m' : am_M} {N : Nat} (h : XS m N) (hf : Fr (DX N) m m') : XS m' N := by
  refine h.fr hf (fun x hx => ?_) (fun x hx => ?_)
  · have h2 := of_decide_eq_true (List.all_eq_true.mp (by decide : xr_.all (fun x => decide (¬ (x.1 = 15 ∨ x.1 = 16 ∨ x.1 = 17 ∨ (x.1 = 14 ∧ 7 ≤ x.2.1) ∨ x.1 = 19 ∨ x.1 = 20 ∨ x.1 = 18 ∨ x.1 = 22 ∨ (x.1 = 21 ∧ x.2.1 = 2)))) = true) x hx)
    rintro ((z | z | z | ⟨z, z2⟩) | (z | z | z | z | ⟨z, z2⟩)) <;> exact h2 (by omega)
  · have h2 := of_decide_eq_true (List.all_eq_true.mp (by decide : xw_.all (fun x => decide (¬ (x.1 = 15 ∨ x.1 = 16 ∨ x.1 = 17 ∨ x.1 = 19 ∨ x.1 = 20 ∨ x.1 = 18 ∨ x.1 = 22))) = true) x hx)
    rintro ((z | z | z | ⟨z, z2⟩) | (z | z | z | z | ⟨z, z2⟩)) <;> first | exact h2 (by omega) | omega
theorem CQ.frX {B : Nat} {m m' : am_M} {N o : Nat} {s : Nat → Int32} {q : Nat → Int64} (h : CQ B m N o s q) (hNo : N + 27 ≤ o) (hf : Fr (DX N) m m') : CQ B m' N o s q := by
  obtain ⟨hX, hN, ho, ho0, hO, hV, hF, hB⟩ := h
  have np : ∀ a k, o ≤ a → a < o + 27 → ¬ DX N a k := by
    rintro a k ha _ ((z | z | z | ⟨z, -⟩) | (z | z | z | z | ⟨z, -⟩)) <;> omega
  exact ⟨hX.frX hf, hN, (hf.2.2.2.1 _ _ (by rintro ((z | z | z | ⟨z, -⟩) | (z | z | z | z | ⟨z, -⟩)) <;> omega)).trans ho, ho0, hO.fr' hf np, hV.fr hf np, hF, hB⟩
section R68
variable {sa sv d N o B : Nat} {m : am_M} {s : Nat → Int32} {q : Nat → Int64}
theorem x198 (h : CQ B m N o s q) (hNo : N + 27 ≤ o) (w a u : Int32) : ∃ m', Fr (DX N) m m' ∧ am_ca sa sv (d + 7) 198 [.ref N, .int w, .int a, .int u] m = bif inR w (cN s 1) then (bif inR u (cN s 0) then (bif amt_ a then some (.inl (some (.int (nI (bst_ (er_ s w.toNatClampNeg a.toNatClampNeg u.toNatClampNeg) (cN s 4) (9999 - cN s 4))))), m') else some (.inr 1, th_ m)) else some (.inr 2, th_ m)) else some (.inr 2, th_ m) := by
  have h' := h
  obtain ⟨hX, hN, ho, ho0, hO, hV, hF, hB⟩ := h
  have hz := l_eqF (Nat.pos_iff_ne_zero.mp ho0)
  have hC := wf_c hF
  have hW := wf_w hF
  have hA := wf_a hF
  obtain ⟨e0, b0⟩ := (wc_np hC).c (by decide)
  obtain ⟨e1, b1⟩ := (wc_nw hC).c (by decide)
  obtain ⟨e4, b4⟩ := (wc_day hC).c (by decide)
  cases h1 : inR w (cN s 1) with
  | false =>
    refine ⟨m, Fr.refl _ _, ?_⟩
    rw [c198, b198_0]
    simp (disch := omega) only [gq_true, gb_true, gb_false, true_and, and_true, eq_self, not_false_eq_true, not_true_eq_false, true_or, or_true, false_or, or_false, false_and, and_false, c0_v, ci_v, cl_v, cf_v, pk_mul, nI_add, nI_clamp, nI_lt0, nI_0le, nI_eq0, nI_lt0r, nI_ltE, nI_leE, nI_eqE, nI_m1, in_t, ba0, ba1, Nat.one_ne_zero, Nat.reduceEqDiff, Nat.reduceLeDiff, Nat.add_eq_zero_iff, xk0 hX, x213f h' _ h1, c0_x, xg_v, cond_false]
    try rfl
  | true =>
    obtain ⟨w, hw, rfl⟩ := (inR_t (by omega)).mp h1
    cases h2 : inR u (cN s 0) with
    | false =>
      refine ⟨m, Fr.refl _ _, ?_⟩
      rw [c198, b198_0]
      simp (disch := omega) only [gq_true, gb_true, gb_false, true_and, and_true, eq_self, not_false_eq_true, not_true_eq_false, true_or, or_true, false_or, or_false, false_and, and_false, c0_v, ci_v, cl_v, cf_v, pk_mul, nI_add, nI_clamp, nI_lt0, nI_0le, nI_eq0, nI_lt0r, nI_ltE, nI_leE, nI_eqE, nI_m1, in_t, ba0, ba1, Nat.one_ne_zero, Nat.reduceEqDiff, Nat.reduceLeDiff, Nat.add_eq_zero_iff, xk0 hX, x213s h' w hw b1, x212f h' _ h2, c0_x, xg_v, cond_false, cond_true]
      try rfl
    | true =>
      obtain ⟨u, hu, rfl⟩ := (inR_t (by omega)).mp h2
      cases h3 : amt_ a with
      | false =>
        refine ⟨m, Fr.refl _ _, ?_⟩
        rw [c198, b198_0]
        simp (disch := omega) only [gq_true, gb_true, gb_false, true_and, and_true, eq_self, not_false_eq_true, not_true_eq_false, true_or, or_true, false_or, or_false, false_and, and_false, c0_v, ci_v, cl_v, cf_v, pk_mul, nI_add, nI_clamp, nI_lt0, nI_0le, nI_eq0, nI_lt0r, nI_ltE, nI_leE, nI_eqE, nI_m1, in_t, ba0, ba1, Nat.one_ne_zero, Nat.reduceEqDiff, Nat.reduceLeDiff, Nat.add_eq_zero_iff, xk0 hX, x213s h' w hw b1, x212s h' u hu b0, x217f a h3, x215_0, c0_x, xg_v, cond_false, cond_true]
        try rfl
      | true =>
        obtain ⟨a, ha1, ha, rfl⟩ := amt_t.mp h3
        generalize hf : er_ s w a u = f
        have hfb : ∀ t, f t ≤ 9999999 := fun t => by
          have := er_le hC hW hA w a u t hw
          rw [← hf]; omega
        have hco : ∀ t c, (∀ c', ch_ s c' → c' ≤ t ∨ c < c') → t ≤ c → f c = f t := by
          intro t c h1 h2
          rw [← hf]
          unfold er_
          rw [dvd_cg h1 h2 hw]
        have step : ∀ j cur i m1 (o8 : Option Value), 9999 - cur ≤ j → cN s 4 ≤ cur → cur ≤ 9999 → i ≤ cur - cN s 4 → Fr (DX N) m m1 → ∃ m', Fr (DX N) m m' ∧ r198 sa sv (d + 6) 51 [some (.ref N), some (.int (nI w)), some (.int (nI a)), some (.int (nI u)), some (.int (nI (bst_ f (cN s 4) (cur - cN s 4)))), some (.int (nI (f (bst_ f (cN s 4) (cur - cN s 4))))), some (.int (nch_ s (nI cur))), some (.int (nI i)), o8] [] m1 = some (.inl (some (.int (nI (bst_ f (cN s 4) (9999 - cN s 4))))), m') := by
          intro j
          induction j with
          | zero =>
            intro cur i m1 o8 hj h1 h2 h3 hF1
            obtain rfl : cur = 9999 := by omega
            refine ⟨m1, hF1, ?_⟩
            rw [b198_51]
            rcases nch_spec hW hA (show 9999 < 2 ^ 31 by decide) with ⟨e, -⟩ | ⟨c, e, g1, g2, -⟩
            · simp (disch := omega) only [gq_true, gb_true, gb_false, true_and, and_true, eq_self, not_false_eq_true, not_true_eq_false, true_or, or_true, false_or, or_false, false_and, and_false, c0_v, ci_v, cl_v, cf_v, pk_mul, nI_add, nI_clamp, nI_lt0, nI_0le, nI_eq0, nI_lt0r, nI_ltE, nI_leE, nI_eqE, nI_m1, in_t, ba0, ba1, Nat.one_ne_zero, Nat.reduceEqDiff, Nat.reduceLeDiff, Nat.add_eq_zero_iff, eq_false (show ¬ 9999 < i by omega), e]
            · omega
          | succ j ih =>
            intro cur i m1 o8 hj h1 h2 h3 hF1
            have hQ1 := h'.frX hNo hF1
            have hX1 := hQ1.1
            have ho1 := hQ1.2.2.1
            have hO1 := hQ1.2.2.2.2.1
            have hV1 := hQ1.2.2.2.2.2.1
            rw [b198_51]
            rcases nch_spec hW hA (show cur < 2 ^ 31 by omega) with ⟨e, g0⟩ | ⟨c, e, g1, g2, g3⟩
            · refine ⟨m1, hF1, ?_⟩
              simp (disch := omega) only [gq_true, gb_true, gb_false, true_and, and_true, eq_self, not_false_eq_true, not_true_eq_false, true_or, or_true, false_or, or_false, false_and, and_false, c0_v, ci_v, cl_v, cf_v, pk_mul, nI_add, nI_clamp, nI_lt0, nI_0le, nI_eq0, nI_lt0r, nI_ltE, nI_leE, nI_eqE, nI_m1, in_t, ba0, ba1, Nat.one_ne_zero, Nat.reduceEqDiff, Nat.reduceLeDiff, Nat.add_eq_zero_iff, eq_false (show ¬ 9999 < i by omega), e]
              have := bst_st f (cN s 4) (cur - cN s 4) (9999 - cur) fun i hi => by
                rw [show cN s 4 + (cur - cN s 4 + i) = cur + i by omega, show cN s 4 + (cur - cN s 4) = cur by omega]
                exact hco cur _ (fun c' hc => Or.inl (g0 c' hc)) (by omega)
              rw [show cur - cN s 4 + (9999 - cur) = 9999 - cN s 4 by omega] at this
              rw [this]
            · have hb1 := bst_st f (cN s 4) (cur - cN s 4) (c - 1 - cur) fun i hi => by
                rw [show cN s 4 + (cur - cN s 4 + i) = cur + i by omega, show cN s 4 + (cur - cN s 4) = cur by omega]
                exact hco cur _ (fun c' hc => by have := g3 c' hc; omega) (by omega)
              rw [show cur - cN s 4 + (c - 1 - cur) = c - 1 - cN s 4 by omega] at hb1
              have hb2 : bst_ f (cN s 4) (c - cN s 4) = if f (bst_ f (cN s 4) (cur - cN s 4)) < f c then c else bst_ f (cN s 4) (cur - cN s 4) := by
                rw [show c - cN s 4 = (c - 1 - cN s 4) + 1 by omega, bst_, hb1, show cN s 4 + (c - 1 - cN s 4 + 1) = c by omega]
              have hfc := hfb c
              have hfb1 := hfb (bst_ f (cN s 4) (cur - cN s 4))
              obtain ⟨m2, k1, k2⟩ := x199 (sa := sa) (sv := sv) (d := d) hQ1 hNo w a u c hw hu ha (by omega)
              have hF2 := hF1.trans k1
              have hQ2 := h'.frX hNo hF2
              have hX2 := hQ2.1
              have ho2 := hQ2.2.2.1
              have hO2 := hQ2.2.2.2.2.1
              have hV2 := hQ2.2.2.2.2.2.1
              have k2 : am_ca sa sv (d + 6) 199 [.ref N, .int (nI w), .int (nI a), .int (nI u), .int (nI c)] m1 = some (.inl (some (.int (nI (f c)))), m2) := by rw [k2, ← hf]; rfl
              obtain ⟨m', q1, q2⟩ := ih c (i + 1) m2 (some (.int (nI (f c)))) (by omega) (by omega) (by omega) (by omega) hF2
              rw [hb2] at q2
              refine ⟨m', q1, ?_⟩
              simp (disch := omega) only [gq_true, gb_true, gb_false, true_and, and_true, eq_self, not_false_eq_true, not_true_eq_false, true_or, or_true, false_or, or_false, false_and, and_false, c0_v, ci_v, cl_v, cf_v, pk_mul, nI_add, nI_clamp, nI_lt0, nI_0le, nI_eq0, nI_lt0r, nI_ltE, nI_leE, nI_eqE, nI_m1, in_t, ba0, ba1, Nat.one_ne_zero, Nat.reduceEqDiff, Nat.reduceLeDiff, Nat.add_eq_zero_iff, eq_false (show ¬ 9999 < i by omega), e, xk0 hX1]
              rw [k2]
              simp (disch := omega) only [gq_true, gb_true, gb_false, true_and, and_true, eq_self, not_false_eq_true, not_true_eq_false, true_or, or_true, false_or, or_false, false_and, and_false, c0_v, ci_v, cl_v, cf_v, pk_mul, nI_add, nI_clamp, nI_lt0, nI_0le, nI_eq0, nI_lt0r, nI_ltE, nI_leE, nI_eqE, nI_m1, in_t, ba0, ba1, Nat.one_ne_zero, Nat.reduceEqDiff, Nat.reduceLeDiff, Nat.add_eq_zero_iff, xk0 hX2, ho2, ok0 hO2, hz, x79 hO2 hV2 hC hW]
              by_cases c1 : f (bst_ f (cN s 4) (cur - cN s 4)) < f c
              · rw [gb_neg (by omega)]
                rw [if_pos c1] at q2
                exact q2
              · rw [gb_pos (by omega)]
                rw [if_neg c1] at q2
                exact q2
        obtain ⟨m1, g1, g2⟩ := x199 (sa := sa) (sv := sv) (d := d) h' hNo w a u (cN s 4) hw hu ha (by omega)
        have hQ1 := h'.frX hNo g1
        have hX1 := hQ1.1
        have ho1 := hQ1.2.2.1
        have hO1 := hQ1.2.2.2.2.1
        have hV1 := hQ1.2.2.2.2.2.1
        obtain ⟨m', q1, q2⟩ := step 9999 (cN s 4) 0 m1 none (by omega) (by omega) (by omega) (by omega) g1
        rw [Nat.sub_self] at q2
        have g2 : am_ca sa sv (d + 6) 199 [.ref N, .int (nI w), .int (nI a), .int (nI u), .int (nI (cN s 4))] m = some (.inl (some (.int (nI (f (cN s 4))))), m1) := by rw [g2, ← hf]; rfl
        refine ⟨m', q1, ?_⟩
        rw [c198, b198_0]
        simp (disch := omega) only [gq_true, gb_true, gb_false, true_and, and_true, eq_self, not_false_eq_true, not_true_eq_false, true_or, or_true, false_or, or_false, false_and, and_false, c0_v, ci_v, cl_v, cf_v, pk_mul, nI_add, nI_clamp, nI_lt0, nI_0le, nI_eq0, nI_lt0r, nI_ltE, nI_leE, nI_eqE, nI_m1, in_t, ba0, ba1, Nat.one_ne_zero, Nat.reduceEqDiff, Nat.reduceLeDiff, Nat.add_eq_zero_iff, xk0 hX, x213s h' w hw b1, x212s h' u hu b0, x217s a ha1 ha, x215_1, ho, ok0 hO, ov_day hV, e4, hz]
        rw [g2]
        simp (disch := omega) only [gq_true, gb_true, gb_false, true_and, and_true, eq_self, not_false_eq_true, not_true_eq_false, true_or, or_true, false_or, or_false, false_and, and_false, c0_v, ci_v, cl_v, cf_v, pk_mul, nI_add, nI_clamp, nI_lt0, nI_0le, nI_eq0, nI_lt0r, nI_ltE, nI_leE, nI_eqE, nI_m1, in_t, ba0, ba1, Nat.one_ne_zero, Nat.reduceEqDiff, Nat.reduceLeDiff, Nat.add_eq_zero_iff, xk0 hX1, ho1, ok0 hO1, hz, x79 hO1 hV1 hC hW, cond_true]
        rw [hf]
        exact q2
end R68
