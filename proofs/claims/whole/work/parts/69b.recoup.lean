/-! the amount that recoups an advance -/
def am9_ (x : Int32) : Bool := decide (1 ≤ x.toInt ∧ x.toInt ≤ 9999)
theorem am9_t {x : Int32} : am9_ x = true ↔ ∃ k, 1 ≤ k ∧ k ≤ 9999 ∧ x = nI k := by
  unfold am9_
  rw [decide_eq_true_iff]
  constructor
  · intro h
    refine ⟨x.toInt.toNat, by omega, by omega, ?_⟩
    apply Int32.toInt_inj.mp
    rw [nI_toInt (by omega)]
    omega
  · rintro ⟨k, h1, h2, rfl⟩
    rw [nI_toInt (by omega)]
    omega
theorem yam9 (p : Int32) : decide ((1 : Int64) ≤ p.toInt64 ∧ p.toInt64 ≤ (9999 : Int64)) = am9_ p := by
  unfold am9_
  refine decide_eq_decide.mpr ?_
  rw [Int64.le_iff_toInt_le, Int64.le_iff_toInt_le, Int32.toInt_toInt64, show (1 : Int64).toInt = 1 by decide, show (9999 : Int64).toInt = 9999 by decide]
/-- the first of the n amounts from x on that recoups, or -1 -/
def rcv_ (s : Nat → Int32) (w a n x : Nat) : Int32 := if fst_ (rc_ s w a) n x = x + n then -1 else nI (fst_ (rc_ s w a) n x)
theorem rcv_0 (s : Nat → Int32) (w a x : Nat) : rcv_ s w a 0 x = -1 := if_pos rfl
theorem rcv_t {s : Nat → Int32} {w a n x : Nat} (h : rc_ s w a x = true) : rcv_ s w a (n + 1) x = nI x := by
  unfold rcv_
  rw [fst_s h, if_neg (by omega)]
theorem rcv_f {s : Nat → Int32} {w a n x : Nat} (h : rc_ s w a x = false) : rcv_ s w a (n + 1) x = rcv_ s w a n (x + 1) := by
  unfold rcv_
  rw [fst_n h, show x + (n + 1) = x + 1 + n by omega]
theorem rcv_k {s : Nat → Int32} {w a n k : Nat} (hk : k ≤ n) (h : ∀ x, 1 ≤ x → x < 1 + k → rc_ s w a x = false) : rcv_ s w a n 1 = rcv_ s w a (n - k) (1 + k) := by
  unfold rcv_
  rw [fst_skip k n 1 hk h, show 1 + k + (n - k) = 1 + n by omega]
section R69
variable {sa sv d N o B : Nat} {m : am_M} {s : Nat → Int32} {q : Nat → Int64}
theorem y336_a (hR : RS m N s q) (hC : WC s) (a w l3 : Int32) : am_ca sa sv (d + 4) 336 [.ref (N + 243), .int a, .int w, .int l3] m = r336 sa sv (d + 3) 22 [some (.ref (N + 243)), some (.int a), some (.int w), some (.int l3), none] [.int (tr_ (inR a (cN s 3) && inR w (cN s 1))), .ref (N + 243)] m := by
  rw [c336, b336_0]
  simp (disch := omega) only [gq_true, gb_true, gb_false, true_and, and_true, eq_self, not_false_eq_true, not_true_eq_false, true_or, or_true, false_or, or_false, false_and, and_false, c0_v, ci_v, cl_v, cf_v, pk_mul, nI_add, nI_clamp, nI_lt0, nI_0le, nI_eq0, nI_lt0r, nI_ltE, nI_leE, nI_eqE, nI_m1, in_t, ba0, ba1, Nat.one_ne_zero, Nat.reduceEqDiff, Nat.reduceLeDiff, Nat.add_eq_zero_iff, rk243 hR, rr15 hR, rk245 hR, rr19 hR, rk249 hR, rs hR, rq hR, y286 hR hC, y288 hR hC, tr_0]
  cases inR a (cN s 3) <;> cases inR w (cN s 1) <;> simp only [gb_true, gb_false, Bool.true_and, Bool.false_and, Bool.true_eq_false] <;> rfl
theorem y336 (hR : RS m N s q) (hF : WF B s q) (a w l3 : Int32) : ∃ m', am_ca sa sv (d + 7) 336 [.ref (N + 243), .int a, .int w, .int l3] m = some (.inl (some (.int (bif inR a (cN s 3) && inR w (cN s 1) && am9_ l3 then (if cN s (690 + 6 * a.toNatClampNeg + 5) = 0 then nI 0 else rcv_ s w.toNatClampNeg a.toNatClampNeg l3.toNatClampNeg 1) else nI 0))), m') ∧ Fr (RX N) m m' ∧ gi_ m' (N + 243) 0 = nI (cd2_ (inR a (cN s 3) && inR w (cN s 1)) (am9_ l3)) := by
  have hC := wf_c hF
  have hW := wf_w hF
  have hA := wf_a hF
  have hD := wf_d hF
  obtain ⟨e1, b1⟩ := (wc_nw hC).c (by decide)
  obtain ⟨e3, b3⟩ := (wc_nd hC).c (by decide)
  obtain ⟨e4, b4⟩ := (wc_day hC).c (by decide)
  have hF1 : Fr (RX N) m (si_ m (N + 243) 0 (nI (cd2_ (inR a (cN s 3) && inR w (cN s 1)) (am9_ l3)))) := (Fr.refl _ _).si RX.c0
  have hR1 := hR.c 0 (nI (cd2_ (inR a (cN s 3) && inR w (cN s 1)) (am9_ l3)))
  have hX1 := hR1.1
  have hcd : gi_ (si_ m (N + 243) 0 (nI (cd2_ (inR a (cN s 3) && inR w (cN s 1)) (am9_ l3)))) (N + 243) 0 = nI (cd2_ (inR a (cN s 3) && inR w (cN s 1)) (am9_ l3)) := by rw [gi_si, if_pos ⟨rfl, rfl⟩]
  have h226 := y226 (sa := sa) (sv := sv) (d := d + 5) hR (inR a (cN s 3) && inR w (cN s 1)) (am9_ l3)
  have h0 := y336_a (sa := sa) (sv := sv) (d := d + 3) hR hC a w l3
  generalize hm1 : si_ m (N + 243) 0 (nI (cd2_ (inR a (cN s 3) && inR w (cN s 1)) (am9_ l3))) = m1 at *
  rw [h0, b336_22]
  simp (disch := omega) only [gq_true, gb_true, gb_false, true_and, and_true, eq_self, not_false_eq_true, not_true_eq_false, true_or, or_true, false_or, or_false, false_and, and_false, c0_v, ci_v, cl_v, cf_v, pk_mul, nI_add, nI_clamp, nI_lt0, nI_0le, nI_eq0, nI_lt0r, nI_ltE, nI_leE, nI_eqE, nI_m1, in_t, ba0, ba1, Nat.one_ne_zero, Nat.reduceEqDiff, Nat.reduceLeDiff, Nat.add_eq_zero_iff, y222, yam9, rk243 hR, h226, tr_0]
  cases hok : (inR a (cN s 3) && inR w (cN s 1) && am9_ l3) with
  | false => exact ⟨m1, by rw [gb_pos rfl, cond_false, nI_0], hF1, hcd⟩
  | true =>
    rw [Bool.and_eq_true, Bool.and_eq_true] at hok
    obtain ⟨⟨h1, h2⟩, h3⟩ := hok
    obtain ⟨a, ha, rfl⟩ := (inR_t (by omega)).mp h1
    obtain ⟨w, hw, rfl⟩ := (inR_t (by omega)).mp h2
    obtain ⟨x3, hx1, hx2, rfl⟩ := am9_t.mp h3
    generalize hcode : nI (cd2_ (inR (nI a) (cN s 3) && inR (nI w) (cN s 1)) (am9_ (nI x3))) = code at *
    obtain ⟨e5, b5⟩ := (wd_o hD a ha).c (by decide)
    rw [gb_neg (by decide), cond_true]
    simp (disch := omega) only [gq_true, gb_true, gb_false, true_and, and_true, eq_self, not_false_eq_true, not_true_eq_false, true_or, or_true, false_or, or_false, false_and, and_false, c0_v, ci_v, cl_v, cf_v, pk_mul, nI_add, nI_clamp, nI_lt0, nI_0le, nI_eq0, nI_lt0r, nI_ltE, nI_leE, nI_eqE, nI_m1, in_t, ba0, ba1, Nat.one_ne_zero, Nat.reduceEqDiff, Nat.reduceLeDiff, Nat.add_eq_zero_iff, rk243 hR1, y258 hR1 a 5 (by omega), e5]
    by_cases hz : cN s (690 + 6 * a + 5) = 0
    · rw [gb_pos hz, if_pos hz]
      exact ⟨m1, rfl, hF1, hcd⟩
    · rw [gb_neg hz, if_neg hz]
      have step : ∀ j x m2, x + j = x3 + 1 → 1 ≤ x → Fr (fun b k => RLc N b k ∨ RW N b k) m1 m2 → ∃ m', r336 sa sv (d + 6) 53 [some (.ref (N + 243)), some (.int (nI a)), some (.int (nI w)), some (.int (nI x3)), some (.int (nI x))] [] m2 = some (.inl (some (.int (rcv_ s w a j x))), m') ∧ Fr (fun b k => RLc N b k ∨ RW N b k) m1 m' := by
        intro j
        induction j with
        | zero =>
          intro x m2 hj hx hF2
          refine ⟨m2, ?_, hF2⟩
          rw [b336_53, rcv_0]
          simp (disch := omega) only [gq_true, gb_true, gb_false, true_and, and_true, eq_self, not_false_eq_true, not_true_eq_false, true_or, or_true, false_or, or_false, false_and, and_false, c0_v, ci_v, cl_v, cf_v, pk_mul, nI_add, nI_clamp, nI_lt0, nI_0le, nI_eq0, nI_lt0r, nI_ltE, nI_leE, nI_eqE, nI_m1, in_t, ba0, ba1, Nat.one_ne_zero, Nat.reduceEqDiff, Nat.reduceLeDiff, Nat.add_eq_zero_iff, show x3 < x by omega]
        | succ j ih =>
          intro x m2 hj hx hF2
          have hR2 := hR1.fr (hF2.mono fun _ _ h => h.elim RLc.x RW.x)
          obtain ⟨m3, g1, g2, g3, g4, g5⟩ := y328 (sa := sa) (sv := sv) (d := d + 1) hR2 hC hW hA w x (cN s 4) hw (by omega) (by omega)
          have hR3 := hR2.fr (g2.mono fun _ _ h => RLc.x h)
          have hGL := dvd_GL hC hW hA (cN s 4) w x hw (by omega)
          obtain ⟨m4, k1, k2, k3, k4, k5, k6⟩ := y329 (sa := sa) (sv := sv) (d := d + 3) hR3 hC hD (dvd_64 hC hW (cN s 4) w x hw) hGL (g4.f fun x hx => (hGL x hx).2.2.2.2) g5
          have hX4 := (hR3.fr (k2.mono fun _ _ h => RW.x h)).1
          have hF4 := (hF2.trans (g2.mono fun _ _ h => Or.inl h)).trans (k2.mono fun _ _ h => Or.inr h)
          have hop := wh_bd hD (dvd_ s (cN s 4) w x).2 (dvd_ s (cN s 4) w x).2.length a (by omega)
          have hk4 := k4 a (by omega)
          rw [b336_53]
          simp (disch := omega) only [gq_true, gb_true, gb_false, true_and, and_true, eq_self, not_false_eq_true, not_true_eq_false, true_or, or_true, false_or, or_false, false_and, and_false, c0_v, ci_v, cl_v, cf_v, pk_mul, nI_add, nI_clamp, nI_lt0, nI_0le, nI_eq0, nI_lt0r, nI_ltE, nI_leE, nI_eqE, nI_m1, in_t, ba0, ba1, Nat.one_ne_zero, Nat.reduceEqDiff, Nat.reduceLeDiff, Nat.add_eq_zero_iff, eq_false (show ¬ x3 < x by omega), rk243 hR2, rr15 hR2, rk245 hR2, rr19 hR2, rk249 hR2, rs hR2, rq hR2, e4]
          rw [g1, c0_v]
          simp (disch := omega) only [gq_true, gb_true, gb_false, true_and, and_true, eq_self, not_false_eq_true, not_true_eq_false, true_or, or_true, false_or, or_false, false_and, and_false, c0_v, ci_v, cl_v, cf_v, pk_mul, nI_add, nI_clamp, nI_lt0, nI_0le, nI_eq0, nI_lt0r, nI_ltE, nI_leE, nI_eqE, nI_m1, in_t, ba0, ba1, Nat.one_ne_zero, Nat.reduceEqDiff, Nat.reduceLeDiff, Nat.add_eq_zero_iff, rk243 hR3]
          rw [k1, c0_v]
          simp (disch := omega) only [gq_true, gb_true, gb_false, true_and, and_true, eq_self, not_false_eq_true, not_true_eq_false, true_or, or_true, false_or, or_false, false_and, and_false, c0_v, ci_v, cl_v, cf_v, pk_mul, nI_add, nI_clamp, nI_lt0, nI_0le, nI_eq0, nI_lt0r, nI_ltE, nI_leE, nI_eqE, nI_m1, in_t, ba0, ba1, Nat.one_ne_zero, Nat.reduceEqDiff, Nat.reduceLeDiff, Nat.add_eq_zero_iff, xk243 hX4, xr243_30 hX4, xk257 hX4, hk4]
          by_cases c1 : (wh_ s (dvd_ s (cN s 4) w x).2 (dvd_ s (cN s 4) w x).2.length).1 a = 0
          · rw [gb_pos c1, rcv_t (decide_eq_true c1)]
            exact ⟨m4, rfl, hF4⟩
          · rw [gb_neg c1, rcv_f (decide_eq_false c1)]
            exact ih (x + 1) m4 (by omega) (by omega) hF4
      obtain ⟨m', q1, q2⟩ := step x3 1 m1 (by omega) (Nat.le_refl _) (Fr.refl _ _)
      exact ⟨m', q1, hF1.trans (q2.mono fun _ _ h => h.elim RLc.x RW.x), (q2.2.1 _ _ (by rintro (z | z); exact (by rcases z with z | z | ⟨z, z2⟩ <;> omega); exact RW.c z)).trans hcd⟩
theorem x196 (a r : Nat) (ha : a < 1000000) (hr0 : 0 < r) (hr : r < 101) : am_ca sa sv (d + 1) 196 [.ref N, .int (nI a), .int (nI r)] m = some (.inl (some (.int (nI ((a * 100 + r - 1) / r)))), m) := by
  rw [c196, b196_0, gb_neg (by rw [nI_le0 (by omega)]; omega)]
  simp (disch := omega) only [gq_true, gb_true, gb_false, true_and, and_true, eq_self, not_false_eq_true, not_true_eq_false, true_or, or_true, false_or, or_false, false_and, and_false, c0_v, ci_v, cl_v, cf_v, pk_mul, nI_add, nI_clamp, nI_lt0, nI_0le, nI_eq0, nI_lt0r, nI_ltE, nI_leE, nI_eqE, nI_m1, in_t, ba0, ba1, Nat.one_ne_zero, Nat.reduceEqDiff, Nat.reduceLeDiff, Nat.add_eq_zero_iff, eq_false (show ¬ r = 0 by omega)]
  rw [pk_sub (by omega), pk_div (by omega) (by omega) (by omega)]
end R69
