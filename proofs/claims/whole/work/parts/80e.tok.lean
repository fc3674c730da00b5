/-! the reference goes on: numbers, the whole -/
section D80
variable {sa sv d N : Nat} {m : am_M} {b : Nat → Nat} {n i : Nat}
theorem y233_146 (hX : XS m N) (hG : GB m N b n) (a : Nat) (ha : a < n) (c : Int32) (h4 : gi_ m (N + 243) 4 = nI a) (h7 : gi_ m (N + 243) 7 = nI 0) : ∃ m', r233 sa sv (d + 1) 146 [some (.ref (N + 243)), some (.int c), some (.int (nI 0))] [] m = some (.inl none, m') ∧ Fr (RG N) m m' ∧ gi_ m' (N + 243) 4 = nI (nnd b n a) ∧ gi_ m' (N + 243) 5 = gi_ m (N + 243) 5 ∧ gi_ m' (N + 243) 6 = nI (if nnd b n a - a ≤ 6 then 2 else 4) ∧ (nnd b n a - a ≤ 6 → gi_ m' (N + 243) 7 = nI (nvn b a (nnd b n a - a))) := by
  have h9 := hG.2.1
  have hge : a ≤ nnd b n a := rnd_ge (f := tD) (b := b) (n := n) (p := a)
  have hle : nnd b n a ≤ n := rnd_le (f := tD) (b := b) (n := n) (p := a) (by omega)
  have done : ∀ k m1, nnd b n a = a + k → Fr (fun x y => x = N + 243 ∧ y = 7) m m1 → gi_ m1 (N + 243) 7 = nI (nvn b a (min k 6)) → am_ca sa sv (d + 1) 230 [.ref (N + 243), .int (nI k)] m1 = some (.inl (some (.int (if a + k < n then nI (b (a + k)) else -1))), m1) → am_ca sa sv (d + 1) 232 [.int (if a + k < n then nI (b (a + k)) else -1)] m1 = some (.inl (some (.int (nI 0))), m1) → ∃ m', r233 sa sv (d + 1) 146 [some (.ref (N + 243)), some (.int c), some (.int (nI k))] [] m1 = some (.inl none, m') ∧ Fr (RG N) m m' ∧ gi_ m' (N + 243) 4 = nI (nnd b n a) ∧ gi_ m' (N + 243) 5 = gi_ m (N + 243) 5 ∧ gi_ m' (N + 243) 6 = nI (if nnd b n a - a ≤ 6 then 2 else 4) ∧ (nnd b n a - a ≤ 6 → gi_ m' (N + 243) 7 = nI (nvn b a (nnd b n a - a))) := by
    intro k m1 hw hF hv e1 e2
    have hX1 := hX.frg hF (fun a k z => XF.a243 z.1 (by have := z.2; omega))
    have e4 : gi_ m1 (N + 243) 4 = nI a := (hF.2.1 _ _ (by omega)).trans h4
    have g4 : gi_ (si_ m1 (N + 243) 6 (nI (if nnd b n a - a ≤ 6 then 2 else 4))) (N + 243) 4 = nI a := by rw [gi_si, if_neg (by omega)]; exact e4
    refine ⟨si_ (si_ m1 (N + 243) 6 (nI (if nnd b n a - a ≤ 6 then 2 else 4))) (N + 243) 4 (nI (nnd b n a)), ?_, ((hF.mono fun x y z => ⟨z.1, Or.inl (by have := z.2; omega)⟩).si ⟨rfl, by omega⟩).si ⟨rfl, by omega⟩, by rw [gi_si, if_pos ⟨rfl, rfl⟩], by rw [gi_si, if_neg (by omega), gi_si, if_neg (by omega)]; exact hF.2.1 _ _ (by omega), by rw [gi_si, if_neg (by omega), gi_si, if_pos ⟨rfl, rfl⟩], fun h8 => ?_⟩
    · rw [b233_146]
      simp (disch := omega) only [gq_true, gb_true, gb_false, true_and, and_true, eq_self, not_false_eq_true, not_true_eq_false, true_or, or_true, false_or, or_false, false_and, and_false, c0_v, ci_v, cl_v, cf_v, pk_mul, nI_add, nI_clamp, nI_lt0, nI_0le, nI_eq0, nI_lt0r, nI_ltE, nI_leE, nI_eqE, nI_m1, in_t, ba0, ba1, Nat.one_ne_zero, Nat.reduceEqDiff, Nat.reduceLeDiff, Nat.add_eq_zero_iff, xk243 hX1, e1, e2]
      by_cases e : k ≤ 6
      · rw [if_pos (show nnd b n a - a ≤ 6 by omega)] at g4 ⊢
        rw [gb_pos e]
        simp (disch := omega) only [gq_true, gb_true, gb_false, true_and, and_true, eq_self, not_false_eq_true, not_true_eq_false, true_or, or_true, false_or, or_false, false_and, and_false, c0_v, ci_v, cl_v, cf_v, pk_mul, nI_add, nI_clamp, nI_lt0, nI_0le, nI_eq0, nI_lt0r, nI_ltE, nI_leE, nI_eqE, nI_m1, in_t, ba0, ba1, Nat.one_ne_zero, Nat.reduceEqDiff, Nat.reduceLeDiff, Nat.add_eq_zero_iff, g4]
        rw [show a + k = nnd b n a by omega]
      · rw [if_neg (show ¬ nnd b n a - a ≤ 6 by omega)] at g4 ⊢
        rw [gb_neg e]
        simp (disch := omega) only [gq_true, gb_true, gb_false, true_and, and_true, eq_self, not_false_eq_true, not_true_eq_false, true_or, or_true, false_or, or_false, false_and, and_false, c0_v, ci_v, cl_v, cf_v, pk_mul, nI_add, nI_clamp, nI_lt0, nI_0le, nI_eq0, nI_lt0r, nI_ltE, nI_leE, nI_eqE, nI_m1, in_t, ba0, ba1, Nat.one_ne_zero, Nat.reduceEqDiff, Nat.reduceLeDiff, Nat.add_eq_zero_iff, g4]
        rw [show a + k = nnd b n a by omega]
    · rw [gi_si, if_neg (by omega), gi_si, if_neg (by omega), hv, show min k 6 = nnd b n a - a by omega]
  have step : ∀ j k m1, a + k + j = n → nnd b n a = rnd tD b n (a + k) → Fr (fun x y => x = N + 243 ∧ y = 7) m m1 → gi_ m1 (N + 243) 7 = nI (nvn b a (min k 6)) → (∀ t, t < k → tD (b (a + t)) = true) → ∃ m', r233 sa sv (d + 1) 146 [some (.ref (N + 243)), some (.int c), some (.int (nI k))] [] m1 = some (.inl none, m') ∧ Fr (RG N) m m' ∧ gi_ m' (N + 243) 4 = nI (nnd b n a) ∧ gi_ m' (N + 243) 5 = gi_ m (N + 243) 5 ∧ gi_ m' (N + 243) 6 = nI (if nnd b n a - a ≤ 6 then 2 else 4) ∧ (nnd b n a - a ≤ 6 → gi_ m' (N + 243) 7 = nI (nvn b a (nnd b n a - a))) := by
    intro j
    induction j with
    | zero =>
      intro k m1 hk hw hF hv hl
      have hX1 := hX.frg hF (fun a k z => XF.a243 z.1 (by have := z.2; omega))
      have hG1 := hG.fr hF (fun k => by omega) (by omega)
      have e4 : gi_ m1 (N + 243) 4 = nI a := (hF.2.1 _ _ (by omega)).trans h4
      rw [rnd_e (by omega)] at hw
      have e1 := y230 (sa := sa) (sv := sv) (d := d) hX1 hG1 a k e4 (by omega)
      have e2 := y232h (sa := sa) (sv := sv) (d := d) hG1 (a + k)
      rw [decide_eq_false (show ¬ a + k < n by omega), Bool.false_and, tr_f] at e2
      exact done k m1 hw hF hv e1 e2
    | succ j ih =>
      intro k m1 hk hw hF hv hl
      have hX1 := hX.frg hF (fun a k z => XF.a243 z.1 (by have := z.2; omega))
      have hG1 := hG.fr hF (fun k => by omega) (by omega)
      have e4 : gi_ m1 (N + 243) 4 = nI a := (hF.2.1 _ _ (by omega)).trans h4
      have e1 := y230 (sa := sa) (sv := sv) (d := d) hX1 hG1 a k e4 (by omega)
      have e2 := y232h (sa := sa) (sv := sv) (d := d) hG1 (a + k)
      rw [decide_eq_true (show a + k < n by omega), Bool.true_and] at e2
      cases hlp : tD (b (a + k)) with
      | false =>
        rw [rnd_f hlp] at hw
        rw [hlp, tr_f] at e2
        exact done k m1 hw hF hv e1 e2
      | true =>
        have hc := of_decide_eq_true hlp
        rw [rnd_t hlp (by omega)] at hw
        rw [hlp, tr_t] at e2
        have hl2 : ∀ t, t < k + 1 → tD (b (a + t)) = true := fun t ht => by
          by_cases e : t = k
          · rw [e]; exact hlp
          · exact hl t (by omega)
        by_cases e : 6 ≤ k
        · obtain ⟨m', q1, q2⟩ := ih (k + 1) m1 (by omega) hw hF (by rw [hv, show min k 6 = min (k + 1) 6 by omega]) hl2
          refine ⟨m', ?_, q2⟩
          rw [b233_146]
          simp (disch := omega) only [gq_true, gb_true, gb_false, true_and, and_true, eq_self, not_false_eq_true, not_true_eq_false, true_or, or_true, false_or, or_false, false_and, and_false, c0_v, ci_v, cl_v, cf_v, pk_mul, nI_add, nI_clamp, nI_lt0, nI_0le, nI_eq0, nI_lt0r, nI_ltE, nI_leE, nI_eqE, nI_m1, in_t, ba0, ba1, Nat.one_ne_zero, Nat.reduceEqDiff, Nat.reduceLeDiff, Nat.add_eq_zero_iff, xk243 hX1, e1, e2]
          rw [gb_pos e]
          exact q1
        · have hwv : nvn b a k < 10 ^ 6 := by
            have key : ∀ t, t ≤ k → nvn b a t < 10 ^ t := by
              intro t
              induction t with
              | zero => exact fun _ => Nat.one_pos
              | succ t iht =>
                intro ht
                have h1 := iht (by omega)
                have h2 := of_decide_eq_true (hl2 t (by omega))
                rw [nvn, Nat.pow_succ]
                omega
            have h1 := key k (Nat.le_refl _)
            have h2 : 10 ^ k ≤ 10 ^ 6 := Nat.pow_le_pow_right (by decide) (by omega)
            omega
          rw [show min k 6 = k by omega] at hv
          have hn : nI 10 * nI (nvn b a k) + nI (b (a + k)) - nI 48 = nI (nvn b a (k + 1)) := by
            rw [pk_mul, nI_add, pk_sub (by omega), nvn, show 10 * nvn b a k + b (a + k) - 48 = nvn b a k * 10 + (b (a + k) - 48) by omega]
          obtain ⟨m', q1, q2⟩ := ih (k + 1) (si_ m1 (N + 243) 7 (nI (nvn b a (k + 1)))) (by omega) hw (hF.si ⟨rfl, rfl⟩) (by rw [gi_si, if_pos ⟨rfl, rfl⟩, show min (k + 1) 6 = k + 1 by omega]) hl2
          refine ⟨m', ?_, q2⟩
          rw [b233_146]
          simp (disch := omega) only [xk243 hX1, gq_true, eq_self, ci_v, e1, e2, nI_eq0, Nat.one_ne_zero, gb_false, nI_leE]
          rw [gb_neg e, hv, if_pos (show a + k < n by omega), hn, nI_add]
          exact q1
  exact step (n - a) 0 m (by omega) rfl (Fr.refl _ _) (by rw [h7]; rfl) (fun t ht => absurd ht (by omega))
/-- on to token i -/
theorem y233 (hX : XS m N) (hG : GB m N b n) (h4 : gi_ m (N + 243) 4 = nI (tp b n i)) : ∃ m', am_ca sa sv (d + 2) 233 [.ref (N + 243)] m = some (.inl none, m') ∧ Fr (RG N) m m' ∧ RP m' N b n i := by
  have h9 := hG.2.1
  have hpn := tp_le (b := b) (n := n) i
  have step : ∀ j p m1, p + j = n → rnd tS b n p = St b n i → Fr (fun x y => x = N + 243 ∧ y = 4) m m1 → gi_ m1 (N + 243) 4 = nI p → ∃ m', r233 sa sv (d + 1) 0 [some (.ref (N + 243)), none, none] [] m1 = some (.inl none, m') ∧ Fr (RG N) m m' ∧ RP m' N b n i := by
    intro j
    induction j with
    | zero =>
      intro p m1 hp hr hF e4
      obtain rfl : p = n := by omega
      have hX1 := hX.frg hF (fun a k z => XF.a243 z.1 (by have := z.2; omega))
      have hG1 := hG.fr hF (fun k => by omega) (by omega)
      rw [rnd_e (Nat.le_refl _)] at hr
      have e1 := y230 (sa := sa) (sv := sv) (d := d) hX1 hG1 p 0 e4 (by omega)
      rw [if_neg (by omega)] at e1
      have hFA : Fr (RG N) m1 (si_ (sl_ (si_ m1 (N + 243) 5 (nI p)) (N + 243) 14 0) (N + 243) 7 (nI 0)) := (((Fr.refl _ _).si ⟨rfl, by omega⟩).sl ⟨rfl, by omega⟩).si ⟨rfl, by omega⟩
      have hXA := hX1.frg hFA (fun a k z => z.x)
      have hGA := hG1.fr hFA (fun k => by unfold RG; omega) (by unfold RG; omega)
      have eA : gi_ (si_ (sl_ (si_ m1 (N + 243) 5 (nI p)) (N + 243) 14 0) (N + 243) 7 (nI 0)) (N + 243) 4 = nI p := by rw [gi_si, if_neg (by omega), gi_sl, gi_si, if_neg (by omega)]; exact e4
      have e2 := y230 (sa := sa) (sv := sv) (d := d) hXA hGA p 0 eA (by omega)
      rw [if_neg (by omega)] at e2
      have hK : Kd b p i = 0 := by unfold Kd; rw [if_neg (by omega)]
      have ht : tp b p (i + 1) = p := by rw [tp, if_neg (by rw [show skp b p (tp b p i) = St b p i from rfl]; omega)]
      refine ⟨si_ (si_ (sl_ (si_ m1 (N + 243) 5 (nI p)) (N + 243) 14 0) (N + 243) 7 (nI 0)) (N + 243) 6 (nI 0), ?_, (hF.mono fun x y z => ⟨z.1, by have := z.2; omega⟩).trans (hFA.si ⟨rfl, by omega⟩), ?_⟩
      · rw [b233_0]
        simp (disch := omega) only [gq_true, gb_true, gb_false, true_and, and_true, eq_self, not_false_eq_true, not_true_eq_false, true_or, or_true, false_or, or_false, false_and, and_false, c0_v, ci_v, cl_v, cf_v, pk_mul, nI_add, nI_clamp, nI_lt0, nI_0le, nI_eq0, nI_lt0r, nI_ltE, nI_leE, nI_eqE, nI_m1, in_t, ba0, ba1, Nat.one_ne_zero, Nat.reduceEqDiff, Nat.reduceLeDiff, Nat.add_eq_zero_iff, xk243 hX1, e1, eq_false (show ¬ (-1 : Int32) = nI 32 by decide), eq_false (show ¬ (-1 : Int32) = nI 10 by decide), e4, xk243 hXA, e2, eq_false (show ¬ (0 : Int32) ≤ -1 by decide)]
      · unfold RP
        rw [hK, ht, ← hr]
        refine ⟨by rw [gi_si, if_neg (by omega)]; exact eA, by rw [gi_si, if_neg (by omega), gi_si, if_neg (by omega), gi_sl, gi_si, if_pos ⟨rfl, rfl⟩], by rw [gi_si, if_pos ⟨rfl, rfl⟩]; rfl, fun z => absurd z (by decide), fun z => absurd z (by decide), fun z => absurd z (by decide), fun z => absurd z (by decide), fun z => absurd z (by decide)⟩
    | succ j ih =>
      intro p m1 hp hr hF e4
      have hX1 := hX.frg hF (fun a k z => XF.a243 z.1 (by have := z.2; omega))
      have hG1 := hG.fr hF (fun k => by omega) (by omega)
      have e1 := y230 (sa := sa) (sv := sv) (d := d) hX1 hG1 p 0 e4 (by omega)
      rw [if_pos (by omega), show p + 0 = p from rfl] at e1
      have hc := (hG1.2.2 p (by omega)).1
      rw [b233_0]
      simp (disch := omega) only [gq_true, gb_true, gb_false, true_and, and_true, eq_self, not_false_eq_true, not_true_eq_false, true_or, or_true, false_or, or_false, false_and, and_false, c0_v, ci_v, cl_v, cf_v, pk_mul, nI_add, nI_clamp, nI_lt0, nI_0le, nI_eq0, nI_lt0r, nI_ltE, nI_leE, nI_eqE, nI_m1, in_t, ba0, ba1, Nat.one_ne_zero, Nat.reduceEqDiff, Nat.reduceLeDiff, Nat.add_eq_zero_iff, xk243 hX1, e1, e4]
      by_cases c1 : b p = 32
      · rw [gb_pos c1]
        rw [rnd_t ((tS_eq _).mpr (Or.inl c1)) (by omega)] at hr
        exact ih (p + 1) _ (by omega) hr (hF.si ⟨rfl, rfl⟩) (by rw [gi_si, if_pos ⟨rfl, rfl⟩])
      · rw [gb_neg c1]
        by_cases c2 : b p = 10
        · rw [gb_pos c2]
          rw [rnd_t ((tS_eq _).mpr (Or.inr c2)) (by omega)] at hr
          exact ih (p + 1) _ (by omega) hr (hF.si ⟨rfl, rfl⟩) (by rw [gi_si, if_pos ⟨rfl, rfl⟩])
        · rw [gb_neg c2]
          have hs : tS (b p) = false := by
            cases h : tS (b p) with
            | false => rfl
            | true => rcases (tS_eq _).mp h with z | z <;> contradiction
          rw [rnd_f hs] at hr
          have hFA : Fr (RG N) m1 (si_ (sl_ (si_ m1 (N + 243) 5 (nI p)) (N + 243) 14 0) (N + 243) 7 (nI 0)) := (((Fr.refl _ _).si ⟨rfl, by omega⟩).sl ⟨rfl, by omega⟩).si ⟨rfl, by omega⟩
          have hFM : Fr (RG N) m (si_ (sl_ (si_ m1 (N + 243) 5 (nI p)) (N + 243) 14 0) (N + 243) 7 (nI 0)) := (hF.mono fun x y z => ⟨z.1, by have := z.2; omega⟩).trans hFA
          have hXA := hX1.frg hFA (fun a k z => z.x)
          have hGA := hG1.fr hFA (fun k => by unfold RG; omega) (by unfold RG; omega)
          have eA : gi_ (si_ (sl_ (si_ m1 (N + 243) 5 (nI p)) (N + 243) 14 0) (N + 243) 7 (nI 0)) (N + 243) 4 = nI p := by rw [gi_si, if_neg (by omega), gi_sl, gi_si, if_neg (by omega)]; exact e4
          have e5 : gi_ (si_ (sl_ (si_ m1 (N + 243) 5 (nI p)) (N + 243) 14 0) (N + 243) 7 (nI 0)) (N + 243) 5 = nI p := by rw [gi_si, if_neg (by omega), gi_sl, gi_si, if_pos ⟨rfl, rfl⟩]
          have e7 : gi_ (si_ (sl_ (si_ m1 (N + 243) 5 (nI p)) (N + 243) 14 0) (N + 243) 7 (nI 0)) (N + 243) 7 = nI 0 := by rw [gi_si, if_pos ⟨rfl, rfl⟩]
          have e14 : gl_ (si_ (sl_ (si_ m1 (N + 243) 5 (nI p)) (N + 243) 14 0) (N + 243) 7 (nI 0)) (N + 243) 14 = 0 := by rw [gl_si, gl_sl, if_pos ⟨rfl, rfl⟩]
          generalize si_ (sl_ (si_ m1 (N + 243) 5 (nI p)) (N + 243) 14 0) (N + 243) 7 (nI 0) = mA at *
          have e2 := y230 (sa := sa) (sv := sv) (d := d) hXA hGA p 0 eA (by omega)
          rw [if_pos (by omega), show p + 0 = p from rfl] at e2
          have ht : tp b n (i + 1) = tE b n p := by rw [tp_s (by omega), ← hr]
          have hK : Kd b n i = tK b n p := by unfold Kd; rw [← hr, if_pos (by omega)]
          have hV : Vl b n i = tV b n p := by unfold Vl; rw [← hr, if_pos (by omega)]
          simp (disch := omega) only [gq_true, gb_true, gb_false, true_and, and_true, eq_self, not_false_eq_true, not_true_eq_false, true_or, or_true, false_or, or_false, false_and, and_false, c0_v, ci_v, cl_v, cf_v, pk_mul, nI_add, nI_clamp, nI_lt0, nI_0le, nI_eq0, nI_lt0r, nI_ltE, nI_leE, nI_eqE, nI_m1, in_t, ba0, ba1, Nat.one_ne_zero, Nat.reduceEqDiff, Nat.reduceLeDiff, Nat.add_eq_zero_iff, xk243 hXA, e2, y231 _ hc, tr_0]
          cases hl : tL (b p) with
          | true =>
            rw [gb_neg (by decide)]
            obtain ⟨m', q1, q2, q3, q4, q5, q6⟩ := y233_76 (sa := sa) (sv := sv) (d := d) hXA hGA p (by omega) (nI (b p)) eA e14
            refine ⟨m', q1, hFM.trans q2, ?_⟩
            unfold RP
            rw [ht, hK, hV, ← hr]
            unfold tE tK tV
            simp only [hl, if_true]
            by_cases e8 : wnd b n p - p ≤ 8
            · rw [if_pos e8] at q5 ⊢
              rcases wki_2 (Int64.ofNat (wvn b p (wnd b n p - p))) with w | ⟨w, w'⟩
              · rw [w]
                exact ⟨q3, q4.trans e5, q5, fun z => absurd z (by decide), fun z => absurd z (by decide), fun z => absurd z (by decide), fun z => absurd z (by decide), fun _ => q6 e8⟩
              · refine ⟨q3, q4.trans e5, ?_, fun z => absurd z (by omega), fun z => absurd z (by omega), fun z => absurd z (by omega), fun z => absurd z (by omega), fun _ => q6 e8⟩
                rw [q5]; unfold srt
                rw [if_neg (by omega), if_neg (by omega), if_neg (by omega), if_neg (by omega), if_neg (by omega)]
            · rw [if_neg e8] at q5 ⊢
              exact ⟨q3, q4.trans e5, q5, fun z => absurd z (by decide), fun z => absurd z (by decide), fun z => absurd z (by decide), fun z => absurd z (by decide), fun z => absurd z (by decide)⟩
          | false =>
            rw [gb_pos rfl]
            simp (disch := omega) only [gq_true, gb_true, gb_false, true_and, and_true, eq_self, not_false_eq_true, not_true_eq_false, true_or, or_true, false_or, or_false, false_and, and_false, c0_v, ci_v, cl_v, cf_v, pk_mul, nI_add, nI_clamp, nI_lt0, nI_0le, nI_eq0, nI_lt0r, nI_ltE, nI_leE, nI_eqE, nI_m1, in_t, ba0, ba1, Nat.one_ne_zero, Nat.reduceEqDiff, Nat.reduceLeDiff, Nat.add_eq_zero_iff, y232 _ hc, tr_0]
            cases hd : tD (b p) with
            | true =>
              rw [gb_neg (by decide)]
              obtain ⟨m', q1, q2, q3, q4, q5, q6⟩ := y233_146 (sa := sa) (sv := sv) (d := d) hXA hGA p (by omega) (nI (b p)) eA e7
              refine ⟨m', q1, hFM.trans q2, ?_⟩
              unfold RP Nv
              rw [ht, hK, hV, ← hr]
              unfold tE tK tV
              simp only [hl, hd, if_true, Bool.false_eq_true, if_false]
              by_cases e8 : nnd b n p - p ≤ 6
              · rw [if_pos e8] at q5 ⊢
                exact ⟨q3, q4.trans e5, q5, fun _ => q6 e8, fun z => absurd z (by decide), fun z => absurd z (by decide), fun z => absurd z (by decide), fun z => absurd z (by decide)⟩
              · rw [if_neg e8] at q5 ⊢
                exact ⟨q3, q4.trans e5, q5, fun z => absurd z (by decide), fun z => absurd z (by decide), fun z => absurd z (by decide), fun z => absurd z (by decide), fun z => absurd z (by decide)⟩
            | false =>
              rw [gb_pos rfl]
              have fin : ∀ k : Nat, (k = 3 ∨ k = 4) → ∃ m', r233 sa sv (d + 1) 231 [some (.ref (N + 243)), some (.int (nI (b p))), some (.int (nI 0))] [.int (nI k), .ref (N + 243)] mA = some (.inl none, m') ∧ Fr (RG N) m m' ∧ gi_ m' (N + 243) 4 = nI (p + 1) ∧ gi_ m' (N + 243) 5 = nI p ∧ gi_ m' (N + 243) 6 = nI k ∧ gi_ m' (N + 243) 7 = nI (b p) := fun k hk => by
                have e9 : gi_ (si_ (si_ mA (N + 243) 6 (nI k)) (N + 243) 7 (nI (b p))) (N + 243) 4 = nI p := by rw [gi_si, if_neg (by omega), gi_si, if_neg (by omega)]; exact eA
                refine ⟨si_ (si_ (si_ mA (N + 243) 6 (nI k)) (N + 243) 7 (nI (b p))) (N + 243) 4 (nI (p + 1)), ?_, ((hFM.si ⟨rfl, by omega⟩).si ⟨rfl, by omega⟩).si ⟨rfl, by omega⟩, by rw [gi_si, if_pos ⟨rfl, rfl⟩], by rw [gi_si, if_neg (by omega), gi_si, if_neg (by omega), gi_si, if_neg (by omega)]; exact e5, by rw [gi_si, if_neg (by omega), gi_si, if_neg (by omega), gi_si, if_pos ⟨rfl, rfl⟩], by rw [gi_si, if_neg (by omega), gi_si, if_pos ⟨rfl, rfl⟩]⟩
                rw [b233_231]
                simp (disch := omega) only [gq_true, gb_true, gb_false, true_and, and_true, eq_self, not_false_eq_true, not_true_eq_false, true_or, or_true, false_or, or_false, false_and, and_false, c0_v, ci_v, cl_v, cf_v, pk_mul, nI_add, nI_clamp, nI_lt0, nI_0le, nI_eq0, nI_lt0r, nI_ltE, nI_leE, nI_eqE, nI_m1, in_t, ba0, ba1, Nat.one_ne_zero, Nat.reduceEqDiff, Nat.reduceLeDiff, Nat.add_eq_zero_iff, xk243 hXA, e9]
              have shape : ∀ m' k, gi_ m' (N + 243) 4 = nI (p + 1) → gi_ m' (N + 243) 5 = nI p → gi_ m' (N + 243) 6 = nI k → gi_ m' (N + 243) 7 = nI (b p) → ((k = 3 ∧ ((b p = 59 ∧ tK b n p = 4) ∨ (b p = 40 ∧ tK b n p = 5) ∨ (b p = 41 ∧ tK b n p = 6))) ∨ (k = 4 ∧ tK b n p = 1)) → RP m' N b n i := fun m' k s4 s5 s6 s7 hk => by
                unfold RP
                rw [ht, hK, ← hr]
                have hE : tE b n p = p + 1 := by unfold tE; simp only [hl, hd, Bool.false_eq_true, if_false]
                rw [hE]
                rcases hk with ⟨rfl, ⟨h1, h2⟩ | ⟨h1, h2⟩ | ⟨h1, h2⟩⟩ | ⟨rfl, h2⟩ <;> rw [h2]
                · rw [h1] at s7
                  exact ⟨s4, s5, s6, fun z => absurd z (by decide), fun _ => s7, fun z => absurd z (by decide), fun z => absurd z (by decide), fun z => absurd z (by decide)⟩
                · rw [h1] at s7
                  exact ⟨s4, s5, s6, fun z => absurd z (by decide), fun z => absurd z (by decide), fun _ => s7, fun z => absurd z (by decide), fun z => absurd z (by decide)⟩
                · rw [h1] at s7
                  exact ⟨s4, s5, s6, fun z => absurd z (by decide), fun z => absurd z (by decide), fun z => absurd z (by decide), fun _ => s7, fun z => absurd z (by decide)⟩
                · exact ⟨s4, s5, s6, fun z => absurd z (by decide), fun z => absurd z (by decide), fun z => absurd z (by decide), fun z => absurd z (by decide), fun z => absurd z (by decide)⟩
              have tk : tK b n p = if b p = 59 then 4 else if b p = 40 then 5 else if b p = 41 then 6 else 1 := by unfold tK; simp only [hl, hd, Bool.false_eq_true, if_false]
              by_cases d1 : b p = 59
              · rw [gb_pos d1]
                obtain ⟨m', q1, q2, q3, q4, q5, q6⟩ := fin 3 (Or.inl rfl)
                exact ⟨m', q1, q2, shape m' 3 q3 q4 q5 q6 (Or.inl ⟨rfl, Or.inl ⟨d1, by rw [tk, if_pos d1]⟩⟩)⟩
              · rw [gb_neg d1]
                by_cases d2 : b p = 40
                · rw [gb_pos d2]
                  obtain ⟨m', q1, q2, q3, q4, q5, q6⟩ := fin 3 (Or.inl rfl)
                  exact ⟨m', q1, q2, shape m' 3 q3 q4 q5 q6 (Or.inl ⟨rfl, Or.inr (Or.inl ⟨d2, by rw [tk, if_neg d1, if_pos d2]⟩)⟩)⟩
                · rw [gb_neg d2]
                  by_cases d3 : b p = 41
                  · rw [gb_pos d3]
                    obtain ⟨m', q1, q2, q3, q4, q5, q6⟩ := fin 3 (Or.inl rfl)
                    exact ⟨m', q1, q2, shape m' 3 q3 q4 q5 q6 (Or.inl ⟨rfl, Or.inr (Or.inr ⟨d3, by rw [tk, if_neg d1, if_neg d2, if_pos d3]⟩)⟩)⟩
                  · rw [gb_neg d3]
                    obtain ⟨m', q1, q2, q3, q4, q5, q6⟩ := fin 4 (Or.inr rfl)
                    exact ⟨m', q1, q2, shape m' 4 q3 q4 q5 q6 (Or.inr ⟨rfl, by rw [tk, if_neg d1, if_neg d2, if_neg d3]⟩)⟩
  rw [c233]
  exact step (n - tp b n i) (tp b n i) m (by omega) rfl (Fr.refl _ _) h4
end D80
