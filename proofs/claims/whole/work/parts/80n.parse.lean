/-! shares: the reference -/
def RSh (N a k : Nat) : Prop := RH N a k ∨ (a = N + 243 ∧ k = 27) ∨ a = N + 253 ∨ a = N + 254
theorem RSh.x {N a k : Nat} (h : RSh N a k) : XF N a k := by
  rcases h with h | h | h | h
  · exact h.x
  · exact XF.a243 h.1 (by omega)
  · exact XF.hi (by omega)
  · exact XF.hi (by omega)
def SHr (m : am_M) (N : Nat) (l : List (Nat × Nat)) : Prop := gi_ m (N + 243) 27 = nI l.length ∧ l.length ≤ 4 ∧ ∀ (j : Nat) (x : Nat × Nat), l[j]? = some x → x.1 < 10 ∧ x.2 ≤ 100 ∧ gi_ m (N + 253) j = nI x.1 ∧ gi_ m (N + 254) j = nI x.2
section D80
variable {sa sv d N : Nat} {m : am_M} {b : Nat → Nat} {n : Nat} {σ : Er ⊕ Nat} {s : Nat → Int32} {q : Nat → Int64} {l : List (Nat × Nat)}
theorem SHr.h {m' : am_M} (h : SHr m N l) (hf : Fr (RH N) m m') : SHr m' N l :=
  ⟨(hf.2.1 _ _ (by unfold RH; omega)).trans h.1, h.2.1, fun j x hx => ⟨(h.2.2 j x hx).1, (h.2.2 j x hx).2.1, (hf.2.1 _ _ (by unfold RH; omega)).trans (h.2.2 j x hx).2.2.1, (hf.2.1 _ _ (by unfold RH; omega)).trans (h.2.2 j x hx).2.2.2⟩⟩
theorem RQ.fr {P : Nat → Nat → Prop} {m' : am_M} (h : RQ m N b n σ) (hf : Fr P m m') (hp : ∀ a k, P a k → XF N a k ∧ ¬ a = N + 244 ∧ (a = N + 243 → ¬ (3 ≤ k ∧ k ≤ 10) ∧ ¬ k = 14)) : RQ m' N b n σ := by
  obtain ⟨hX, hG, h⟩ := h
  have e : ∀ k, (3 ≤ k ∧ k ≤ 10) → gi_ m' (N + 243) k = gi_ m (N + 243) k := fun k z => hf.2.1 _ _ (fun y => ((hp _ _ y).2.2 rfl).1 z)
  have e14 : gl_ m' (N + 243) 14 = gl_ m (N + 243) 14 := hf.2.2.1 _ _ (fun y => ((hp _ _ y).2.2 rfl).2 rfl)
  refine ⟨hX.frg hf (fun a k z => (hp a k z).1), hG.fr hf (fun k z => (hp _ _ z).2.1 rfl) (fun z => ((hp _ _ z).2.2 rfl).1 (by omega)), ?_⟩
  cases σ with
  | inl er =>
    obtain ⟨h1, h2, h3, h4, h5⟩ := h
    exact ⟨(e _ (by omega)).trans h1, h2, h3, (e _ (by omega)).trans h4, (e _ (by omega)).trans h5⟩
  | inr i =>
    obtain ⟨h1, h2, h3, p1, p2, p3, p4, p5, p6, p7, p8⟩ := h
    exact ⟨(e _ (by omega)).trans h1, (e _ (by omega)).trans h2, (e _ (by omega)).trans h3, (e _ (by omega)).trans p1, (e _ (by omega)).trans p2, (e _ (by omega)).trans p3, fun z => (e _ (by omega)).trans (p4 z), fun z => (e _ (by omega)).trans (p5 z), fun z => (e _ (by omega)).trans (p6 z), fun z => (e _ (by omega)).trans (p7 z), fun z => e14.trans (p8 z)⟩
theorem RS.sh {m' : am_M} (h : RS m N s q) (hf : Fr (RSh N) m m') : RS m' N s q := ⟨h.1.frg hf (fun _ _ z => z.x), (funext fun k => hf.2.1 _ _ (by unfold RSh RH; omega)).trans h.2.1, (funext fun k => hf.2.2.1 _ _ (by unfold RSh RH; omega)).trans h.2.2⟩
theorem RH.sh {N a k : Nat} (h : RH N a k) : RSh N a k := Or.inl h
theorem y265 (hX : XS m N) (hH : SHr m N l) : am_ca sa sv (d + 1) 265 [.ref (N + 243)] m = some (.inl (some (.int (nI (lsum l)))), m) := by
  obtain ⟨t1, t2, t3⟩ := hH
  have step : ∀ j k, k + j = l.length → r265 sa sv d 4 [some (.ref (N + 243)), some (.int (nI (lsum (l.take k)))), some (.int (nI k))] [] m = some (.inl (some (.int (nI (lsum l)))), m) := by
    intro j
    induction j with
    | zero =>
      intro k hk
      obtain rfl : k = l.length := by omega
      rw [List.take_length, b265_4]
      simp (disch := omega) only [gq_true, gb_true, gb_false, true_and, and_true, eq_self, not_false_eq_true, not_true_eq_false, true_or, or_true, false_or, or_false, false_and, and_false, c0_v, ci_v, cl_v, cf_v, pk_mul, nI_add, nI_clamp, nI_lt0, nI_0le, nI_eq0, nI_lt0r, nI_ltE, nI_leE, nI_eqE, nI_m1, in_t, ba0, ba1, Nat.one_ne_zero, Nat.reduceEqDiff, Nat.reduceLeDiff, Nat.add_eq_zero_iff, xk243 hX, t1, Nat.le_refl]
    | succ j ih =>
      intro k hk
      have hx : l[k]? = some l[k] := List.getElem?_eq_getElem (by omega)
      have h1 := ih (k + 1) (by omega)
      generalize l[k] = x at hx
      obtain ⟨a1, a2, a3, a4⟩ := t3 k x hx
      rw [lsum_take hx] at h1
      rw [b265_4]
      simp (disch := omega) only [gq_true, gb_true, gb_false, true_and, and_true, eq_self, not_false_eq_true, not_true_eq_false, true_or, or_true, false_or, or_false, false_and, and_false, c0_v, ci_v, cl_v, cf_v, pk_mul, nI_add, nI_clamp, nI_lt0, nI_0le, nI_eq0, nI_lt0r, nI_ltE, nI_leE, nI_eqE, nI_m1, in_t, ba0, ba1, Nat.one_ne_zero, Nat.reduceEqDiff, Nat.reduceLeDiff, Nat.add_eq_zero_iff, xk243 hX, t1, eq_false (show ¬ l.length ≤ k by omega), xr243_26 hX, xk254 hX, a4]
      exact h1
  rw [c265, b265_0]
  exact step l.length 0 (by omega)
theorem y267_111e {e : Er} (h : RQ m N b n (.inl e)) (p k : Int32) : ∃ m', r267 sa sv (d + 3) 111 [some (.ref (N + 243)), some (.int p), some (.int k)] [] m = some (.inl none, m') ∧ Fr (RH N) m m' ∧ RQ m' N b n (.inl e) := by
  obtain ⟨m', v, g1, g2, g3, -⟩ := y240 (sa := sa) (sv := sv) (d := d) h 1 100 (by decide) (by decide)
  have g3' : RQ m' N b n (.inl e) := g3
  have e3 := y235 (sa := sa) (sv := sv) (d := d + 2) g3'
  rw [gs_l, tr_f] at e3
  refine ⟨m', ?_, g2, g3'⟩
  rw [b267_111]
  simp (disch := omega) only [gq_true, gb_true, gb_false, true_and, and_true, eq_self, not_false_eq_true, not_true_eq_false, true_or, or_true, false_or, or_false, false_and, and_false, c0_v, ci_v, cl_v, cf_v, pk_mul, nI_add, nI_clamp, nI_lt0, nI_0le, nI_eq0, nI_lt0r, nI_ltE, nI_leE, nI_eqE, nI_m1, in_t, ba0, ba1, Nat.one_ne_zero, Nat.reduceEqDiff, Nat.reduceLeDiff, Nat.add_eq_zero_iff, xk243 h.1, g1, xk243 g3.1, e3]
theorem y267_43e {e : Er} (p : Int32) : ∀ j k m, k + j = l.length → RQ m N b n (.inl e) → SHr m N l → ∃ m', r267 sa sv (d + 3) 43 [some (.ref (N + 243)), some (.int p), some (.int (nI k))] [] m = some (.inl none, m') ∧ Fr (RH N) m m' ∧ RQ m' N b n (.inl e) := by
  intro j
  induction j with
  | zero =>
    intro k m hk h hH
    have e1 := y235 (sa := sa) (sv := sv) (d := d + 2) h
    rw [gs_l, tr_f] at e1
    have h2 := hH.2.1
    obtain rfl : k = l.length := by omega
    obtain ⟨m', g1, g2, g3⟩ := y267_111e (sa := sa) (sv := sv) (d := d) h p (nI l.length)
    refine ⟨m', ?_, g2, g3⟩
    rw [b267_43]
    simp (disch := omega) only [gq_true, gb_true, gb_false, true_and, and_true, eq_self, not_false_eq_true, not_true_eq_false, true_or, or_true, false_or, or_false, false_and, and_false, c0_v, ci_v, cl_v, cf_v, pk_mul, nI_add, nI_clamp, nI_lt0, nI_0le, nI_eq0, nI_lt0r, nI_ltE, nI_leE, nI_eqE, nI_m1, in_t, ba0, ba1, Nat.one_ne_zero, Nat.reduceEqDiff, Nat.reduceLeDiff, Nat.add_eq_zero_iff, xk243 h.1, hH.1, Nat.le_refl, e1]
    exact g1
  | succ j ih =>
    intro k m hk h hH
    have e1 := y235 (sa := sa) (sv := sv) (d := d + 2) h
    rw [gs_l, tr_f] at e1
    have h2 := hH.2.1
    obtain ⟨m', g1, g2, g3⟩ := ih (k + 1) m (by omega) h hH
    refine ⟨m', ?_, g2, g3⟩
    rw [b267_43]
    simp (disch := omega) only [gq_true, gb_true, gb_false, true_and, and_true, eq_self, not_false_eq_true, not_true_eq_false, true_or, or_true, false_or, or_false, false_and, and_false, c0_v, ci_v, cl_v, cf_v, pk_mul, nI_add, nI_clamp, nI_lt0, nI_0le, nI_eq0, nI_lt0r, nI_ltE, nI_leE, nI_eqE, nI_m1, in_t, ba0, ba1, Nat.one_ne_zero, Nat.reduceEqDiff, Nat.reduceLeDiff, Nat.add_eq_zero_iff, xk243 h.1, hH.1, eq_false (show ¬ l.length ≤ k by omega), e1]
    exact g1
theorem y267 (h : RQ m N b n σ) (hR : RS m N s q) (hC : WC s) (hN : WN s q) (hH : SHr m N l) : ∃ m' l', am_ca sa sv (d + 4) 267 [.ref (N + 243)] m = some (.inl none, m') ∧ Fr (RSh N) m m' ∧ RQ m' N b n (pst (eb σ (sShare s q b n l))) ∧ SHr m' N l' ∧ ∀ x, eb σ (sShare s q b n l) = .inr x → l' = x.2 := by
  have hnp := isN_lt (wc_np hC) (by decide)
  have e1 := y235 (sa := sa) (sv := sv) (d := d + 2) h
  have e2 := y242 (sa := sa) (sv := sv) (d := d + 1) h
  have t2 := hH.2.1
  -- in an error at pc 19
  have bad : ∀ (e : Er) (m1 : am_M), RQ m1 N b n (.inl e) → Fr (RH N) m m1 → ∃ m' l', r267 sa sv (d + 3) 19 [some (.ref (N + 243)), none, none] [] m1 = some (.inl none, m') ∧ Fr (RSh N) m m' ∧ RQ m' N b n (.inl e) ∧ SHr m' N l' ∧ l' = l := fun e m1 h1 hf => by
    have f1 := y235 (sa := sa) (sv := sv) (d := d + 2) h1
    rw [gs_l, tr_f] at f1
    have p1 := y259 (sa := sa) (sv := sv) (d := d + 2) (hR.h hf) hC hN
    obtain ⟨m', g1, g2, g3⟩ := y267_43e (sa := sa) (sv := sv) (d := d) (ix_ (pnm_ s q (gl_ m1 (N + 243) 14)) (cN s 0)) l.length 0 m1 (by omega) h1 (hH.h hf)
    refine ⟨m', l, ?_, (hf.trans g2).mono fun _ _ z => z.sh, g3, hH.h (hf.trans g2), rfl⟩
    rw [b267_19]
    simp (disch := omega) only [gq_true, gb_true, gb_false, true_and, and_true, eq_self, not_false_eq_true, not_true_eq_false, true_or, or_true, false_or, or_false, false_and, and_false, c0_v, ci_v, cl_v, cf_v, pk_mul, nI_add, nI_clamp, nI_lt0, nI_0le, nI_eq0, nI_lt0r, nI_ltE, nI_leE, nI_eqE, nI_m1, in_t, ba0, ba1, Nat.one_ne_zero, Nat.reduceEqDiff, Nat.reduceLeDiff, Nat.add_eq_zero_iff, xk243 h1.1, p1, f1]
    exact g1
  cases σ with
  | inl e =>
    rw [gs_l, tr_f] at e1
    obtain ⟨m', l', g1, g2, g3, g4, g5⟩ := bad e m h (Fr.refl _ _)
    refine ⟨m', l', ?_, g2, g3, g4, fun x hx => by cases hx⟩
    rw [c267, b267_0]
    simp (disch := omega) only [gq_true, gb_true, gb_false, true_and, and_true, eq_self, not_false_eq_true, not_true_eq_false, true_or, or_true, false_or, or_false, false_and, and_false, c0_v, ci_v, cl_v, cf_v, pk_mul, nI_add, nI_clamp, nI_lt0, nI_0le, nI_eq0, nI_lt0r, nI_ltE, nI_leE, nI_eqE, nI_m1, in_t, ba0, ba1, Nat.one_ne_zero, Nat.reduceEqDiff, Nat.reduceLeDiff, Nat.add_eq_zero_iff, xk243 h.1, e1]
    exact g1
  | inr i =>
    rw [gs_r, tr_t] at e1
    rw [show isK b n 2 (.inr i) = decide (Kd b n i = 2) from rfl] at e2
    show ∃ m' l', _ ∧ _ ∧ RQ m' N b n (pst (sShare s q b n l i)) ∧ _ ∧ ∀ x, sShare s q b n l i = .inr x → l' = x.2
    unfold sShare
    by_cases e : Kd b n i = 2
    · rw [if_pos e]
      rw [decide_eq_true e, tr_t] at e2
      have p1 := y259 (sa := sa) (sv := sv) (d := d + 2) hR hC hN
      rw [h.v e] at p1
      by_cases t : pnm_ s q (Vl b n i) < cN s 0
      · rw [if_pos t]
        rw [ix_s t] at p1
        generalize pnm_ s q (Vl b n i) = p at *
        have fail4 : ∀ k, k < l.length → ∃ m' l', am_c0 (am_ca sa sv (d + 3) 234 [.ref (N + 243), .int (nI 4)] m) (fun m25 => r267 sa sv (d + 3) 43 [some (.ref (N + 243)), some (.int (nI p)), some (.int (nI (k + 1)))] [] m25) am_xg = some (.inl none, m') ∧ Fr (RSh N) m m' ∧ RQ m' N b n (.inl (4, St b n i, 0)) ∧ SHr m' N l' := fun k hk => by
          obtain ⟨m1, g1, g2, g3⟩ := y234 (sa := sa) (sv := sv) (d := d + 2) h 4 (by decide) (by decide) (fun z => by omega)
          obtain ⟨m', k1, k2, k3⟩ := y267_43e (sa := sa) (sv := sv) (d := d) (nI p) (l.length - (k + 1)) (k + 1) m1 (by omega) g3 (hH.h g2)
          exact ⟨m', l, by rw [g1, c0_v]; exact k1, (g2.trans k2).mono fun _ _ z => z.sh, k3, hH.h (g2.trans k2)⟩
        have loop : ∀ j k, k + j = l.length → (∀ (t : Nat) (x : Nat × Nat), t < k → l[t]? = some x → ¬ x.1 = p) → ∃ m' l', r267 sa sv (d + 3) 43 [some (.ref (N + 243)), some (.int (nI p)), some (.int (nI k))] [] m = some (.inl none, m') ∧ Fr (RSh N) m m' ∧ RQ m' N b n (pst (if (l.any fun x => decide (x.1 = p)) = true then rr_ b n 4 i else if l.length = 4 then rr_ b n 6 i else eb (sNum b n 1 100 (i + 1)) fun x => .inr (x.1, l ++ [(p, x.2)]))) ∧ SHr m' N l' ∧ ∀ x, (if (l.any fun x => decide (x.1 = p)) = true then rr_ b n 4 i else if l.length = 4 then rr_ b n 6 i else eb (sNum b n 1 100 (i + 1)) fun x => .inr (x.1, l ++ [(p, x.2)])) = .inr x → l' = x.2 := by
          intro j
          induction j with
          | zero =>
            intro k hk hno
            obtain rfl : k = l.length := by omega
            have hany : ¬ (l.any fun x => decide (x.1 = p)) = true := by
              rw [any_idx]
              rintro ⟨t, x, h1, h2⟩
              exact hno t x (List.getElem?_eq_some_iff.mp h1).1 h1 (of_decide_eq_true h2)
            rw [if_neg hany]
            by_cases e4 : l.length = 4
            · rw [if_pos e4]
              obtain ⟨m1, g1, g2, g3⟩ := y234 (sa := sa) (sv := sv) (d := d + 2) h 6 (by decide) (by decide) (fun z => by omega)
              have f1 := y235 (sa := sa) (sv := sv) (d := d + 2) g3
              rw [gs_l, tr_f] at f1
              obtain ⟨m', k1, k2, k3⟩ := y267_111e (sa := sa) (sv := sv) (d := d) g3 (nI p) (nI l.length)
              refine ⟨m', l, ?_, (g2.trans k2).mono fun _ _ z => z.sh, k3, hH.h (g2.trans k2), fun x hx => by cases hx⟩
              rw [b267_43]
              simp (disch := omega) only [gq_true, gb_true, gb_false, true_and, and_true, eq_self, not_false_eq_true, not_true_eq_false, true_or, or_true, false_or, or_false, false_and, and_false, c0_v, ci_v, cl_v, cf_v, pk_mul, nI_add, nI_clamp, nI_lt0, nI_0le, nI_eq0, nI_lt0r, nI_ltE, nI_leE, nI_eqE, nI_m1, in_t, ba0, ba1, Nat.one_ne_zero, Nat.reduceEqDiff, Nat.reduceLeDiff, Nat.add_eq_zero_iff, xk243 h.1, hH.1, Nat.le_refl, e1]
              rw [gb_pos (by omega), g1, c0_v]
              simp (disch := omega) only [gq_true, gb_true, gb_false, true_and, and_true, eq_self, not_false_eq_true, not_true_eq_false, true_or, or_true, false_or, or_false, false_and, and_false, c0_v, ci_v, cl_v, cf_v, pk_mul, nI_add, nI_clamp, nI_lt0, nI_0le, nI_eq0, nI_lt0r, nI_ltE, nI_leE, nI_eqE, nI_m1, in_t, ba0, ba1, Nat.one_ne_zero, Nat.reduceEqDiff, Nat.reduceLeDiff, Nat.add_eq_zero_iff, xk243 g3.1, f1]
              exact k1
            · rw [if_neg e4]
              obtain ⟨m1, g1, g2, g3⟩ := y233n (sa := sa) (sv := sv) (d := d + 1) h
              obtain ⟨m2, v, k1, k2, k3, k4⟩ := y240 (sa := sa) (sv := sv) (d := d) g3 1 100 (by decide) (by decide)
              have hH2 := hH.h (g2.trans k2)
              cases hn : sNum b n 1 100 (i + 1) with
              | inl er =>
                have k3' : RQ m2 N b n (.inl er) := by
                  have : pst (eb (.inr (i + 1)) (sNum b n 1 100)) = .inl er := by show pst (sNum b n 1 100 (i + 1)) = _; rw [hn]; rfl
                  rw [this] at k3; exact k3
                have f2' := y235 (sa := sa) (sv := sv) (d := d + 2) k3'
                rw [gs_l, tr_f] at f2'
                refine ⟨m2, l, ?_, (g2.trans k2).mono fun _ _ z => z.sh, k3', hH2, fun x hx => by cases hx⟩
                rw [b267_43]
                simp (disch := omega) only [gq_true, gb_true, gb_false, true_and, and_true, eq_self, not_false_eq_true, not_true_eq_false, true_or, or_true, false_or, or_false, false_and, and_false, c0_v, ci_v, cl_v, cf_v, pk_mul, nI_add, nI_clamp, nI_lt0, nI_0le, nI_eq0, nI_lt0r, nI_ltE, nI_leE, nI_eqE, nI_m1, in_t, ba0, ba1, Nat.one_ne_zero, Nat.reduceEqDiff, Nat.reduceLeDiff, Nat.add_eq_zero_iff, xk243 h.1, hH.1, Nat.le_refl, e1]
                rw [gb_neg (by omega), g1, c0_v, b267_111]
                simp (disch := omega) only [gq_true, gb_true, gb_false, true_and, and_true, eq_self, not_false_eq_true, not_true_eq_false, true_or, or_true, false_or, or_false, false_and, and_false, c0_v, ci_v, cl_v, cf_v, pk_mul, nI_add, nI_clamp, nI_lt0, nI_0le, nI_eq0, nI_lt0r, nI_ltE, nI_leE, nI_eqE, nI_m1, in_t, ba0, ba1, Nat.one_ne_zero, Nat.reduceEqDiff, Nat.reduceLeDiff, Nat.add_eq_zero_iff, xk243 g3.1, k1, xk243 k3'.1, f2']
              | inr x =>
                have hv : v = nI x.2 := k4 x hn
                have k3' : RQ m2 N b n (.inr x.1) := by
                  have : pst (eb (.inr (i + 1)) (sNum b n 1 100)) = .inr x.1 := by show pst (sNum b n 1 100 (i + 1)) = _; rw [hn]; rfl
                  rw [this] at k3; exact k3
                have f2' := y235 (sa := sa) (sv := sv) (d := d + 2) k3'
                rw [gs_r, tr_t] at f2'
                have hx2 : x.2 ≤ 100 := by
                  unfold sNum at hn
                  split at hn
                  · split at hn
                    · rename_i q4
                      rw [← Sum.inr.inj hn]; exact q4.2
                    · cases hn
                  · cases hn
                subst hv
                have hX2 := k3'.1
                have w27 := hH2.1
                have u1 : gi_ (si_ m2 (N + 253) l.length (nI p)) (N + 243) 27 = nI l.length := by rw [gi_si, if_neg (by omega)]; exact w27
                have u2 : gi_ (si_ (si_ m2 (N + 253) l.length (nI p)) (N + 254) l.length (nI x.2)) (N + 243) 27 = nI l.length := by rw [gi_si, if_neg (by omega)]; exact u1
                have hF3 : Fr (fun a k => (a = N + 243 ∧ k = 27) ∨ a = N + 253 ∨ a = N + 254) m2 (si_ (si_ (si_ m2 (N + 253) l.length (nI p)) (N + 254) l.length (nI x.2)) (N + 243) 27 (nI (l.length + 1))) := (((Fr.refl _ _).si (Or.inr (Or.inl rfl))).si (Or.inr (Or.inr rfl))).si (Or.inl ⟨rfl, rfl⟩)
                refine ⟨si_ (si_ (si_ m2 (N + 253) l.length (nI p)) (N + 254) l.length (nI x.2)) (N + 243) 27 (nI (l.length + 1)), l ++ [(p, x.2)], ?_, ((g2.trans k2).mono fun _ _ z => z.sh).trans (hF3.mono fun a k z => Or.inr z), k3'.fr hF3 (fun a k z => ⟨RSh.x (Or.inr z), by omega, fun y => by omega⟩), ⟨?_, ?_, fun j y hy => ?_⟩, fun y hy => by rw [← Sum.inr.inj hy]⟩
                · rw [b267_43]
                  simp (disch := omega) only [gq_true, gb_true, gb_false, true_and, and_true, eq_self, not_false_eq_true, not_true_eq_false, true_or, or_true, false_or, or_false, false_and, and_false, c0_v, ci_v, cl_v, cf_v, pk_mul, nI_add, nI_clamp, nI_lt0, nI_0le, nI_eq0, nI_lt0r, nI_ltE, nI_leE, nI_eqE, nI_m1, in_t, ba0, ba1, Nat.one_ne_zero, Nat.reduceEqDiff, Nat.reduceLeDiff, Nat.add_eq_zero_iff, xk243 h.1, hH.1, Nat.le_refl, e1]
                  rw [gb_neg (by omega), g1, c0_v, b267_111]
                  simp (disch := omega) only [gq_true, gb_true, gb_false, true_and, and_true, eq_self, not_false_eq_true, not_true_eq_false, true_or, or_true, false_or, or_false, false_and, and_false, c0_v, ci_v, cl_v, cf_v, pk_mul, nI_add, nI_clamp, nI_lt0, nI_0le, nI_eq0, nI_lt0r, nI_ltE, nI_leE, nI_eqE, nI_m1, in_t, ba0, ba1, Nat.one_ne_zero, Nat.reduceEqDiff, Nat.reduceLeDiff, Nat.add_eq_zero_iff, xk243 g3.1, k1, f2', xk243 hX2, xr243_25 hX2, xk253 hX2, w27, xr243_26 hX2, xk254 hX2, u1, u2]
                · rw [gi_si, if_pos ⟨rfl, rfl⟩, List.length_append]; rfl
                · rw [List.length_append]; show l.length + 1 ≤ 4; omega
                · have hjl : j < l.length + 1 := by
                    have := (List.getElem?_eq_some_iff.mp hy).1
                    rw [List.length_append] at this
                    exact this
                  have v53 : ∀ j, gi_ (si_ (si_ (si_ m2 (N + 253) l.length (nI p)) (N + 254) l.length (nI x.2)) (N + 243) 27 (nI (l.length + 1))) (N + 253) j = if j = l.length then nI p else gi_ m2 (N + 253) j := fun j => by
                    simp (disch := omega) only [gi_si, eq_self, true_and, if_neg]
                  have v54 : ∀ j, gi_ (si_ (si_ (si_ m2 (N + 253) l.length (nI p)) (N + 254) l.length (nI x.2)) (N + 243) 27 (nI (l.length + 1))) (N + 254) j = if j = l.length then nI x.2 else gi_ m2 (N + 254) j := fun j => by
                    simp (disch := omega) only [gi_si, eq_self, true_and, if_neg]
                  rw [v53, v54]
                  by_cases e9 : j < l.length
                  · rw [List.getElem?_append_left e9] at hy
                    obtain ⟨a1, a2, a3, a4⟩ := hH2.2.2 j y hy
                    rw [if_neg (by omega), if_neg (by omega)]
                    exact ⟨a1, a2, a3, a4⟩
                  · obtain rfl : j = l.length := by omega
                    rw [List.getElem?_append_right (Nat.le_refl _), Nat.sub_self] at hy
                    have hy2 : (p, x.2) = y := Option.some.inj hy
                    subst hy2
                    rw [if_pos rfl, if_pos rfl]
                    exact ⟨by show p < 10; omega, hx2, rfl, rfl⟩
          | succ j ih =>
            intro k hk hno
            have hx : l[k]? = some l[k] := List.getElem?_eq_getElem (by omega)
            generalize l[k] = x at hx
            obtain ⟨a1, a2, a3, a4⟩ := hH.2.2 k x hx
            rw [b267_43]
            simp (disch := omega) only [gq_true, gb_true, gb_false, true_and, and_true, eq_self, not_false_eq_true, not_true_eq_false, true_or, or_true, false_or, or_false, false_and, and_false, c0_v, ci_v, cl_v, cf_v, pk_mul, nI_add, nI_clamp, nI_lt0, nI_0le, nI_eq0, nI_lt0r, nI_ltE, nI_leE, nI_eqE, nI_m1, in_t, ba0, ba1, Nat.one_ne_zero, Nat.reduceEqDiff, Nat.reduceLeDiff, Nat.add_eq_zero_iff, xk243 h.1, hH.1, eq_false (show ¬ l.length ≤ k by omega), e1, xr243_25 h.1, xk253 h.1, a3]
            by_cases e5 : x.1 = p
            · have hany : (l.any fun x => decide (x.1 = p)) = true := (any_idx _ _).mpr ⟨k, x, hx, decide_eq_true e5⟩
              rw [gb_pos e5, if_pos hany]
              obtain ⟨m', l', g1, g2, g3, g4⟩ := fail4 k (by omega)
              exact ⟨m', l', g1, g2, g3, g4, fun x hx => by cases hx⟩
            · rw [gb_neg e5]
              exact ih (k + 1) (by omega) (fun t y ht hy => by
                by_cases e6 : t = k
                · subst e6
                  rw [hx] at hy
                  rw [← Option.some.inj hy]; exact e5
                · exact hno t y (by omega) hy)
        obtain ⟨m', l', g1, g2⟩ := loop l.length 0 (by omega) (fun t x ht => absurd ht (by omega))
        refine ⟨m', l', ?_, g2⟩
        rw [c267, b267_0]
        simp (disch := omega) only [gq_true, gb_true, gb_false, true_and, and_true, eq_self, not_false_eq_true, not_true_eq_false, true_or, or_true, false_or, or_false, false_and, and_false, c0_v, ci_v, cl_v, cf_v, pk_mul, nI_add, nI_clamp, nI_lt0, nI_0le, nI_eq0, nI_lt0r, nI_ltE, nI_leE, nI_eqE, nI_m1, in_t, ba0, ba1, Nat.one_ne_zero, Nat.reduceEqDiff, Nat.reduceLeDiff, Nat.add_eq_zero_iff, xk243 h.1, e1, e2, b267_19, p1]
        exact g1
      · rw [if_neg t]
        rw [ix_n t] at p1
        obtain ⟨m1, g1, g2, g3⟩ := y234 (sa := sa) (sv := sv) (d := d + 2) h 3 (by decide) (by decide) (fun z => by omega)
        obtain ⟨m', k1, k2, k3⟩ := y267_43e (sa := sa) (sv := sv) (d := d) (-1) l.length 0 m1 (by omega) g3 (hH.h g2)
        refine ⟨m', l, ?_, (g2.trans k2).mono fun _ _ z => z.sh, k3, hH.h (g2.trans k2), fun x hx => by cases hx⟩
        rw [c267, b267_0]
        simp (disch := omega) only [gq_true, gb_true, gb_false, true_and, and_true, eq_self, not_false_eq_true, not_true_eq_false, true_or, or_true, false_or, or_false, false_and, and_false, c0_v, ci_v, cl_v, cf_v, pk_mul, nI_add, nI_clamp, nI_lt0, nI_0le, nI_eq0, nI_lt0r, nI_ltE, nI_leE, nI_eqE, nI_m1, in_t, ba0, ba1, Nat.one_ne_zero, Nat.reduceEqDiff, Nat.reduceLeDiff, Nat.add_eq_zero_iff, xk243 h.1, e1, e2, b267_19, p1, g1]
        exact k1
    · rw [if_neg e]
      rw [decide_eq_false e, tr_f] at e2
      obtain ⟨m1, g1, g2, g3⟩ := y234 (sa := sa) (sv := sv) (d := d + 2) h 1 (by decide) (by decide) (fun _ => rfl)
      obtain ⟨m', l', k1, k2, k3, k4, k5⟩ := bad _ m1 g3 g2
      refine ⟨m', l', ?_, k2, k3, k4, fun x hx => by cases hx⟩
      rw [c267, b267_0]
      simp (disch := omega) only [gq_true, gb_true, gb_false, true_and, and_true, eq_self, not_false_eq_true, not_true_eq_false, true_or, or_true, false_or, or_false, false_and, and_false, c0_v, ci_v, cl_v, cf_v, pk_mul, nI_add, nI_clamp, nI_lt0, nI_0le, nI_eq0, nI_lt0r, nI_ltE, nI_leE, nI_eqE, nI_m1, in_t, ba0, ba1, Nat.one_ne_zero, Nat.reduceEqDiff, Nat.reduceLeDiff, Nat.add_eq_zero_iff, xk243 h.1, e1, e2, g1]
      exact k1
end D80
