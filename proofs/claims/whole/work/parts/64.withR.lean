/-! the reference lets a line of an income withhold -/
def RW (N : Nat) (a k : Nat) : Prop := a = N + 255 ∨ a = N + 257 ∨ a = N + 258 ∨ a = N + 259
theorem RW.x {N a k : Nat} (h : RW N a k) : RX N a k := by
  unfold RW at h
  unfold RX
  omega
section R64
variable {sa sv d N : Nat} {m : am_M} {s : Nat → Int32} {q : Nat → Int64}
theorem y224 (a b : Int32) : am_ca sa sv (d + 1) 224 [.int a, .int b] m = some (.inl (some (.int (if b ≤ a then b else a))), m) := by
  rw [c224, b224_0]
  (simp only [gb_ite]; (repeat' split); all_goals first | rfl | (exfalso; omega))
theorem min_leN {a b : Nat} : (if b ≤ a then nI b else nI a) = nI (min a b) := by
  by_cases h : b ≤ a
  · rw [if_pos h, Nat.min_eq_right h]
  · rw [if_neg h, Nat.min_eq_left (by omega)]
theorem y330 (hR : RS m N s q) (hC : WC s) (hD : WD s) {l : List Ln} {g op rt G : Nat → Nat} (hl : l.length ≤ 64) (i : Nat) (x : Ln) (hx : l[i]? = some x) (hG : GL s x) (hL : LF m (N + 255) l g) (hop : ∀ a, a < 12 → gi_ m (N + 257) a = nI (op a)) (hob : ∀ a, a < 12 → op a < 2 ^ 30) (hrt : ∀ p, p < 10 → gi_ m (N + 259) p = nI (rt p)) (hgr : ∀ p, p < 10 → gi_ m (N + 258) p = nI (G p + rt p)) :
    ∃ m', am_ca sa sv (d + 2) 330 [.ref (N + 243), .int (nI (i * 4))] m = some (.inl none, m') ∧ Fr (RW N) m m' ∧ LF m' (N + 255) l (fun j => if j = i then x.2.2.1 - (wa_ s x.1 x.2.1 (op, rt, x.2.2.1) (cN s 3)).2.2 else g j) ∧ (∀ a, a < 12 → gi_ m' (N + 257) a = nI ((wa_ s x.1 x.2.1 (op, rt, x.2.2.1) (cN s 3)).1 a)) ∧ (∀ p, p < 10 → gi_ m' (N + 259) p = nI ((wa_ s x.1 x.2.1 (op, rt, x.2.2.1) (cN s 3)).2.1 p)) ∧ (∀ p, p < 10 → gi_ m' (N + 258) p = nI ((if p = x.2.1 then G p + (wa_ s x.1 x.2.1 (op, rt, x.2.2.1) (cN s 3)).2.2 else G p) + (wa_ s x.1 x.2.1 (op, rt, x.2.2.1) (cN s 3)).2.1 p)) := by
  obtain ⟨w, p, amt, x4⟩ := x
  obtain ⟨hw, hp, ha0, ha, hx4⟩ := hG
  have hw : w < cN s 1 := hw
  have hp : p < cN s 0 := hp
  have ha : amt ≤ 9999999 := ha
  have hnw := isN_lt (wc_nw hC) (by decide)
  have hnp := isN_lt (wc_np hC) (by decide)
  have hnd := isN_lt (wc_nd hC) (by decide)
  have h3 := ((wc_nd hC).c (by decide)).1
  have hil : i < l.length := (List.getElem?_eq_some_iff.mp hx).1
  show ∃ m', am_ca sa sv (d + 2) 330 [.ref (N + 243), .int (nI (i * 4))] m = some (.inl none, m') ∧ Fr (RW N) m m' ∧ LF m' (N + 255) l (fun j => if j = i then amt - (wa_ s w p (op, rt, amt) (cN s 3)).2.2 else g j) ∧ (∀ a, a < 12 → gi_ m' (N + 257) a = nI ((wa_ s w p (op, rt, amt) (cN s 3)).1 a)) ∧ (∀ u, u < 10 → gi_ m' (N + 259) u = nI ((wa_ s w p (op, rt, amt) (cN s 3)).2.1 u)) ∧ (∀ u, u < 10 → gi_ m' (N + 258) u = nI ((if u = p then G u + (wa_ s w p (op, rt, amt) (cN s 3)).2.2 else G u) + (wa_ s w p (op, rt, amt) (cN s 3)).2.1 u))
  generalize hst : wa_ s w p (op, rt, amt) = st
  have hleft : ∀ n, (st n).2.2 ≤ amt := fun n => by rw [← hst]; exact wa_left _ _ _ _ n
  have hopn : ∀ n b, (st n).1 b ≤ op b := fun n b => by rw [← hst]; exact wa_open w p _ b n
  have hstep : ∀ n, st (n + 1) = wst_ s w p n (st n) := fun n => by rw [← hst]; rfl
  have h00 : st 0 = (op, rt, amt) := by rw [← hst]; rfl
  have step : ∀ j n m1 (o4 : Option Value), n + j = cN s 3 → Fr (RW N) m m1 → LF m1 (N + 255) l g → (∀ a, a < 12 → gi_ m1 (N + 257) a = nI ((st n).1 a)) → (∀ u, u < 10 → gi_ m1 (N + 259) u = nI ((st n).2.1 u)) → (∀ u, u < 10 → gi_ m1 (N + 258) u = nI (G u + (st n).2.1 u)) → ∃ m', r330 sa sv (d + 1) 11 [some (.ref (N + 243)), some (.int (nI (i * 4))), some (.int (nI (st n).2.2)), some (.int (nI n)), o4] [] m1 = some (.inl none, m') ∧ Fr (RW N) m m' ∧ LF m' (N + 255) l (fun j => if j = i then amt - (st (cN s 3)).2.2 else g j) ∧ (∀ a, a < 12 → gi_ m' (N + 257) a = nI ((st (cN s 3)).1 a)) ∧ (∀ u, u < 10 → gi_ m' (N + 259) u = nI ((st (cN s 3)).2.1 u)) ∧ (∀ u, u < 10 → gi_ m' (N + 258) u = nI ((if u = p then G u + (st (cN s 3)).2.2 else G u) + (st (cN s 3)).2.1 u)) := by
    intro j
    induction j with
    | zero =>
      intro n m1 o4 hn hF1 hL1 ho1 hb1 hr1
      obtain rfl : n = cN s 3 := by omega
      have hR1 := hR.fr (hF1.mono fun _ _ h => RW.x h)
      have hX1 := hR1.1
      obtain ⟨l0, l1, l2, l3⟩ := hL1 i _ hx
      have l1 : gi_ m1 (N + 255) (i * 4 + 1) = nI p := l1
      have l2 : gi_ m1 (N + 255) (i * 4 + 2) = nI amt := l2
      have hle := hleft (cN s 3)
      refine ⟨si_ (si_ m1 (N + 255) (i * 4 + 3) (nI (amt - (st (cN s 3)).2.2))) (N + 258) p (nI (G p + (st (cN s 3)).2.1 p + (st (cN s 3)).2.2)), ?_, (hF1.si (Or.inl rfl)).si (Or.inr (Or.inr (Or.inl rfl))), ?_, fun a ha => by simp (disch := omega) only [gi_si, if_neg]; exact ho1 a ha, fun u hu => by simp (disch := omega) only [gi_si, if_neg]; exact hb1 u hu, fun u hu => ?_⟩
      · rw [b330_11]
        simp (disch := omega) only [gq_true, gb_true, gb_false, true_and, and_true, eq_self, not_false_eq_true, not_true_eq_false, true_or, or_true, false_or, or_false, false_and, and_false, c0_v, ci_v, cl_v, cf_v, pk_mul, nI_add, nI_clamp, nI_lt0, nI_0le, nI_eq0, nI_lt0r, nI_ltE, nI_leE, nI_eqE, nI_m1, in_t, ba0, ba1, Nat.one_ne_zero, Nat.reduceEqDiff, Nat.reduceLeDiff, Nat.add_eq_zero_iff, rk243 hR1, rr15 hR1, rk245 hR1, rr19 hR1, rk249 hR1, rs hR1, rq hR1, h3, Nat.le_refl, xr243_28 hX1, xk255 hX1, xr243_31 hX1, xk258 hX1, l2, pk_sub hle, gi_si, eq_false (show ¬ i * 4 + 1 = i * 4 + 3 by omega), if_false, l1, hr1 p (by omega), eq_false (show ¬ N + 258 = N + 255 by omega)]
      · intro j y hy
        obtain ⟨k0, k1, k2, k3⟩ := hL1 j y hy
        simp (disch := omega) only [gi_si, if_neg]
        refine ⟨k0, k1, k2, ?_⟩
        show _ = nI (if j = i then amt - (st (cN s 3)).2.2 else g j)
        by_cases e : j = i
        · rw [if_pos ⟨trivial, by omega⟩, if_pos e]
        · rw [if_neg (by omega), if_neg e]; exact k3
      · rw [gi_si]
        by_cases e : u = p
        · rw [if_pos ⟨rfl, e⟩, if_pos e, e]
          congr 1; omega
        · rw [if_neg (fun z => e z.2), if_neg e, gi_si, if_neg (by omega)]; exact hr1 u hu
    | succ j ih =>
      intro n m1 o4 hn hF1 hL1 ho1 hb1 hr1
      have hR1 := hR.fr (hF1.mono fun _ _ h => RW.x h)
      have hX1 := hR1.1
      have hlt : n < cN s 3 := by omega
      obtain ⟨l0, l1, l2, l3⟩ := hL1 i _ hx
      have l0 : gi_ m1 (N + 255) (i * 4) = nI w := l0
      have l1 : gi_ m1 (N + 255) (i * 4 + 1) = nI p := l1
      have hskip : kp_ s n (st n) = 0 ∨ adm_ s w p n = false → ∃ m', r330 sa sv (d + 1) 11 [some (.ref (N + 243)), some (.int (nI (i * 4))), some (.int (nI (st n).2.2)), some (.int (nI (n + 1))), o4] [] m1 = some (.inl none, m') ∧ Fr (RW N) m m' ∧ LF m' (N + 255) l (fun j => if j = i then amt - (st (cN s 3)).2.2 else g j) ∧ (∀ a, a < 12 → gi_ m' (N + 257) a = nI ((st (cN s 3)).1 a)) ∧ (∀ u, u < 10 → gi_ m' (N + 259) u = nI ((st (cN s 3)).2.1 u)) ∧ (∀ u, u < 10 → gi_ m' (N + 258) u = nI ((if u = p then G u + (st (cN s 3)).2.2 else G u) + (st (cN s 3)).2.1 u)) := by
        intro hk
        have he : st (n + 1) = st n := by
          rw [hstep]
          rcases hk with hk | hk
          · exact wst_id _ _ _ _ _ hk
          · unfold wst_; rw [hk]; rfl
        have := ih (n + 1) m1 o4 (by omega) hF1 hL1 (by rw [he]; exact ho1) (by rw [he]; exact hb1) (by rw [he]; exact hr1)
        rw [he] at this
        exact this
      obtain ⟨e1, b1⟩ := (wd_t hD n hlt).c (by omega)
      obtain ⟨e3, b3⟩ := (wd_c hD n hlt).1.c (by decide)
      obtain ⟨e0, b0⟩ := (wd_g hD n hlt).c (by omega)
      have hon := Nat.lt_of_le_of_lt (hopn n n) (hob n (by omega))
      rw [b330_11]
      simp (disch := omega) only [gq_true, gb_true, gb_false, true_and, and_true, eq_self, not_false_eq_true, not_true_eq_false, true_or, or_true, false_or, or_false, false_and, and_false, c0_v, ci_v, cl_v, cf_v, pk_mul, nI_add, nI_clamp, nI_lt0, nI_0le, nI_eq0, nI_lt0r, nI_ltE, nI_leE, nI_eqE, nI_m1, in_t, ba0, ba1, Nat.one_ne_zero, Nat.reduceEqDiff, Nat.reduceLeDiff, Nat.add_eq_zero_iff, rk243 hR1, rr15 hR1, rk245 hR1, rr19 hR1, rk249 hR1, rs hR1, rq hR1, h3, eq_false (show ¬ cN s 3 ≤ n by omega), xr243_30 hX1, xk257 hX1, ho1 n (by omega)]
      by_cases hz : (st n).1 n = 0
      · rw [gb_pos hz]
        refine hskip (Or.inl ?_)
        unfold kp_; rw [hz, Nat.min_zero]
      · rw [gb_neg hz]
        simp (disch := omega) only [gq_true, gb_true, gb_false, true_and, and_true, eq_self, not_false_eq_true, not_true_eq_false, true_or, or_true, false_or, or_false, false_and, and_false, c0_v, ci_v, cl_v, cf_v, pk_mul, nI_add, nI_clamp, nI_lt0, nI_0le, nI_eq0, nI_lt0r, nI_ltE, nI_leE, nI_eqE, nI_m1, in_t, ba0, ba1, Nat.one_ne_zero, Nat.reduceEqDiff, Nat.reduceLeDiff, Nat.add_eq_zero_iff, y258 hR1 n 1 (by omega), xr243_28 hX1, xk255 hX1, l1, e1]
        by_cases hpe : cN s (690 + 6 * n + 1) = p
        · rw [gb_pos hpe]
          -- with it
          have go : adm_ s w p n = true → ∃ m', r330 sa sv (d + 1) 75 [some (.ref (N + 243)), some (.int (nI (i * 4))), some (.int (nI (st n).2.2)), some (.int (nI n)), o4] [] m1 = some (.inl none, m') ∧ Fr (RW N) m m' ∧ LF m' (N + 255) l (fun j => if j = i then amt - (st (cN s 3)).2.2 else g j) ∧ (∀ a, a < 12 → gi_ m' (N + 257) a = nI ((st (cN s 3)).1 a)) ∧ (∀ u, u < 10 → gi_ m' (N + 259) u = nI ((st (cN s 3)).2.1 u)) ∧ (∀ u, u < 10 → gi_ m' (N + 258) u = nI ((if u = p then G u + (st (cN s 3)).2.2 else G u) + (st (cN s 3)).2.1 u)) := by
            intro had
            have hle := hleft n
            have hmul : (st n).2.2 * cN s (690 + 6 * n + 3) ≤ 9999999 * 100 := Nat.mul_le_mul (by omega) (by omega)
            have hkl := kp_left (show cN s (690 + 6 * n + 3) ≤ 100 by omega) (st n)
            have hke : min ((st n).2.2 * cN s (690 + 6 * n + 3) / 100) ((st n).1 n) = kp_ s n (st n) := rfl
            have hke2 : min ((st n).1 n) ((st n).2.2 * cN s (690 + 6 * n + 3) / 100) = kp_ s n (st n) := by rw [← hke, Nat.min_comm]
            have hko : kp_ s n (st n) ≤ (st n).1 n := Nat.min_le_right _ _
            have hwe : st (n + 1) = ((fun b => if b = n then (st n).1 n - kp_ s n (st n) else (st n).1 b), (fun u => if u = cN s (690 + 6 * n + 0) then (st n).2.1 u + kp_ s n (st n) else (st n).2.1 u), (st n).2.2 - kp_ s n (st n)) := by rw [hstep]; unfold wst_; rw [had]; rfl
            generalize cN s (690 + 6 * n + 0) = r at *
            have hF2 : Fr (RW N) m (si_ m1 (N + 257) n (nI ((st n).1 n - kp_ s n (st n)))) := hF1.si (Or.inr (Or.inl rfl))
            have hF3 : Fr (RW N) m (si_ (si_ m1 (N + 257) n (nI ((st n).1 n - kp_ s n (st n)))) (N + 258) r (nI (G r + (st n).2.1 r + kp_ s n (st n)))) := hF2.si (Or.inr (Or.inr (Or.inl rfl)))
            have hF4 : Fr (RW N) m (si_ (si_ (si_ m1 (N + 257) n (nI ((st n).1 n - kp_ s n (st n)))) (N + 258) r (nI (G r + (st n).2.1 r + kp_ s n (st n)))) (N + 259) r (nI ((st n).2.1 r + kp_ s n (st n)))) := hF3.si (Or.inr (Or.inr (Or.inr rfl)))
            have hR2 := hR.fr (hF2.mono fun _ _ h => RW.x h)
            have hR3 := hR.fr (hF3.mono fun _ _ h => RW.x h)
            have hX2 := hR2.1
            have hX3 := hR3.1
            have := ih (n + 1) _ (some (.int (nI (kp_ s n (st n))))) (by omega) hF4 (fun j y hy => by
              obtain ⟨k0, k1, k2, k3⟩ := hL1 j y hy
              simp (disch := omega) only [gi_si, if_neg]
              exact ⟨k0, k1, k2, k3⟩) (fun a ha12 => by
              rw [hwe]
              simp (disch := omega) only [gi_si, if_neg]
              show _ = nI (if a = n then (st n).1 n - kp_ s n (st n) else (st n).1 a)
              by_cases e : a = n
              · rw [if_pos ⟨trivial, e⟩, if_pos e]
              · rw [if_neg (fun z => e z.2), if_neg e]; exact ho1 a ha12) (fun u hu => by
              rw [hwe, gi_si]
              show _ = nI (if u = r then (st n).2.1 u + kp_ s n (st n) else (st n).2.1 u)
              by_cases e : u = r
              · rw [if_pos ⟨rfl, e⟩, if_pos e, e]
              · rw [if_neg (fun z => e z.2), if_neg e]; simp (disch := omega) only [gi_si, if_neg]; exact hb1 u hu) (fun u hu => by
              rw [hwe]
              simp (disch := omega) only [gi_si, if_neg]
              show _ = nI (G u + if u = r then (st n).2.1 u + kp_ s n (st n) else (st n).2.1 u)
              by_cases e : u = r
              · rw [if_pos ⟨trivial, e⟩, if_pos e, e]
                congr 1; omega
              · rw [if_neg (fun z => e z.2), if_neg e]; exact hr1 u hu)
            rw [hwe] at this
            rw [b330_75]
            simp (disch := omega) only [gq_true, gb_true, gb_false, true_and, and_true, eq_self, not_false_eq_true, not_true_eq_false, true_or, or_true, false_or, or_false, false_and, and_false, c0_v, ci_v, cl_v, cf_v, pk_mul, nI_add, nI_clamp, nI_lt0, nI_0le, nI_eq0, nI_lt0r, nI_ltE, nI_leE, nI_eqE, nI_m1, in_t, ba0, ba1, Nat.one_ne_zero, Nat.reduceEqDiff, Nat.reduceLeDiff, Nat.add_eq_zero_iff, rk243 hR1, y258 hR1 n 3 (by omega), e3, y324, pct_nI (show (st n).2.2 * cN s (690 + 6 * n + 3) < 2 ^ 31 by omega), xr243_30 hX1, xk257 hX1, ho1 n (by omega), y224, min_leN]
            rw [hke]
            simp (disch := omega) only [gq_true, gb_true, gb_false, true_and, and_true, eq_self, not_false_eq_true, not_true_eq_false, true_or, or_true, false_or, or_false, false_and, and_false, c0_v, ci_v, cl_v, cf_v, pk_mul, nI_add, nI_clamp, nI_lt0, nI_0le, nI_eq0, nI_lt0r, nI_ltE, nI_leE, nI_eqE, nI_m1, in_t, ba0, ba1, Nat.one_ne_zero, Nat.reduceEqDiff, Nat.reduceLeDiff, Nat.add_eq_zero_iff, rk243 hR1, xr243_30 hX1, xk257 hX1, xr243_31 hX1, ho1 n (by omega), pk_sub hko, y258 hR2 n 0 (by omega), rk243 hR2, xk258 hX2, e0, gi_si, eq_false (show ¬ N + 258 = N + 257 by omega), eq_false (show ¬ N + 259 = N + 257 by omega), eq_false (show ¬ N + 259 = N + 258 by omega), if_false, hr1 r (by omega), y258 hR3 n 0 (by omega), xr243_32 hX2, rk243 hR3, xk259 hX3, hb1 r (by omega), pk_sub hkl]
            exact this
          simp (disch := omega) only [gq_true, gb_true, gb_false, true_and, and_true, eq_self, not_false_eq_true, not_true_eq_false, true_or, or_true, false_or, or_false, false_and, and_false, c0_v, ci_v, cl_v, cf_v, pk_mul, nI_add, nI_clamp, nI_lt0, nI_0le, nI_eq0, nI_lt0r, nI_ltE, nI_leE, nI_eqE, nI_m1, in_t, ba0, ba1, Nat.one_ne_zero, Nat.reduceEqDiff, Nat.reduceLeDiff, Nat.add_eq_zero_iff, rk243 hR1, y258 hR1 n 4 (by omega)]
          by_cases c1 : s (690 + 6 * n + 4) = -1
          · rw [gb_pos c1]
            exact go (by unfold adm_; rw [decide_eq_true hpe, decide_eq_true (Or.inl c1)]; rfl)
          · rw [gb_neg c1]
            simp (disch := omega) only [gq_true, gb_true, gb_false, true_and, and_true, eq_self, not_false_eq_true, not_true_eq_false, true_or, or_true, false_or, or_false, false_and, and_false, c0_v, ci_v, cl_v, cf_v, pk_mul, nI_add, nI_clamp, nI_lt0, nI_0le, nI_eq0, nI_lt0r, nI_ltE, nI_leE, nI_eqE, nI_m1, in_t, ba0, ba1, Nat.one_ne_zero, Nat.reduceEqDiff, Nat.reduceLeDiff, Nat.add_eq_zero_iff, rk243 hR1, y258 hR1 n 4 (by omega), xr243_28 hX1, xk255 hX1, l0]
            by_cases c2 : s (690 + 6 * n + 4) = nI w
            · rw [gb_pos c2]
              exact go (by unfold adm_; rw [decide_eq_true hpe, decide_eq_true (Or.inr c2)]; rfl)
            · rw [gb_neg c2]
              exact hskip (Or.inr (by unfold adm_; rw [decide_eq_false (show ¬ (s (690 + 6 * n + 4) = -1 ∨ s (690 + 6 * n + 4) = nI w) by rintro (z | z); exact c1 z; exact c2 z), Bool.and_false]))
        · rw [gb_neg hpe]
          simp (disch := omega) only [gq_true, gb_true, gb_false, true_and, and_true, eq_self, not_false_eq_true, not_true_eq_false, true_or, or_true, false_or, or_false, false_and, and_false, c0_v, ci_v, cl_v, cf_v, pk_mul, nI_add, nI_clamp, nI_lt0, nI_0le, nI_eq0, nI_lt0r, nI_ltE, nI_leE, nI_eqE, nI_m1, in_t, ba0, ba1, Nat.one_ne_zero, Nat.reduceEqDiff, Nat.reduceLeDiff, Nat.add_eq_zero_iff, rk243 hR1]
          exact hskip (Or.inr (by unfold adm_; rw [decide_eq_false hpe]; rfl))
  have hX0 := hR.1
  obtain ⟨l0, l1, l2, l3⟩ := hL i _ hx
  have l2 : gi_ m (N + 255) (i * 4 + 2) = nI amt := l2
  have h0 := step (cN s 3) 0 m none (Nat.zero_add _) (Fr.refl _ _) hL (by rw [h00]; exact hop) (by rw [h00]; exact hrt) (by rw [h00]; exact hgr)
  rw [h00] at h0
  rw [c330, b330_0]
  simp (disch := omega) only [gq_true, gb_true, gb_false, true_and, and_true, eq_self, not_false_eq_true, not_true_eq_false, true_or, or_true, false_or, or_false, false_and, and_false, c0_v, ci_v, cl_v, cf_v, pk_mul, nI_add, nI_clamp, nI_lt0, nI_0le, nI_eq0, nI_lt0r, nI_ltE, nI_leE, nI_eqE, nI_m1, in_t, ba0, ba1, Nat.one_ne_zero, Nat.reduceEqDiff, Nat.reduceLeDiff, Nat.add_eq_zero_iff, rk243 hR, xr243_28 hX0, xk255 hX0, l2]
  exact h0
end R64
