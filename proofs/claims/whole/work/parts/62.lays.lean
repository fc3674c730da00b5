/-! the reference divides an income -/
/-- what the reference has beside its rows s and m -/
def RX (N : Nat) (a k : Nat) : Prop := (a = N + 243 ∧ (k = 0 ∨ k = 33)) ∨ a = N + 255 ∨ (N + 256 ≤ a ∧ a ≤ N + 257) ∨ (N + 258 ≤ a ∧ a ≤ N + 259)
theorem XS.frR {m m' : am_M} {N : Nat} (h : XS m N) (hf : Fr (RX N) m m') : XS m' N := by
  refine h.fr hf (fun x hx => ?_) (fun x hx => ?_)
  · have h2 := of_decide_eq_true (List.all_eq_true.mp (by decide : xr_.all (fun x => decide (x.1 < 243 ∨ (x.1 = 243 ∧ (x.2.1 = 1 ∨ (15 ≤ x.2.1 ∧ x.2.1 ≤ 22) ∨ x.2.1 = 25 ∨ x.2.1 = 26 ∨ (28 ≤ x.2.1 ∧ x.2.1 ≤ 32) ∨ (34 ≤ x.2.1 ∧ x.2.1 ≤ 38) ∨ x.2.1 = 43)))) = true) x hx)
    rintro (⟨z, z2⟩ | z | z | z) <;> omega
  · have h2 := of_decide_eq_true (List.all_eq_true.mp (by decide : xw_.all (fun x => decide (x.1 < 243)) = true) x hx)
    rintro (⟨z, -⟩ | z | z | z) <;> omega
theorem RS.fr {m m' : am_M} {N : Nat} {s : Nat → Int32} {q : Nat → Int64} (h : RS m N s q) (hf : Fr (RX N) m m') : RS m' N s q :=
  ⟨h.1.frR hf, (funext fun k => hf.2.1 _ _ (by rintro (⟨z, -⟩ | z | z | z) <;> omega)).trans h.2.1, (funext fun k => hf.2.2.1 _ _ (by rintro (⟨z, -⟩ | z | z | z) <;> omega)).trans h.2.2⟩
def RLn (N : Nat) (a k : Nat) : Prop := a = N + 255 ∨ (a = N + 243 ∧ k = 33)
theorem RLn.x {N a k : Nat} (h : RLn N a k) : RX N a k := by
  unfold RLn at h
  unfold RX
  omega
section R62
variable {sa sv d N : Nat} {m : am_M} {s : Nat → Int32} {q : Nat → Int64}
theorem y324 (a p : Int32) : am_ca sa sv (d + 1) 324 [.int a, .int p] m = some (.inl (some (.int (pct_ a p))), m) := by
  rw [c324, b324_0]
  simp (disch := omega) only [gq_true, gb_true, gb_false, true_and, and_true, eq_self, not_false_eq_true, not_true_eq_false, true_or, or_true, false_or, or_false, false_and, and_false, c0_v, ci_v, cl_v, cf_v, pk_mul, nI_add, nI_clamp, nI_lt0, nI_0le, nI_eq0, nI_lt0r, nI_ltE, nI_leE, nI_eqE, nI_m1, in_t, ba0, ba1, Nat.one_ne_zero, Nat.reduceEqDiff, Nat.reduceLeDiff, Nat.add_eq_zero_iff]
  rfl
/-- a line more, if it is of a cent or more -/
theorem y325 (hR : RS m N s q) {l : List Ln} (hr : gi_ m (N + 243) 33 = nI l.length) (hL : LN m (N + 255) l) (w p x : Nat) (hx : x < 2 ^ 31) (hl : 0 < x → l.length < 64) : ∃ m', am_ca sa sv (d + 1) 325 [.ref (N + 243), .int (nI w), .int (nI p), .int (nI x)] m = some (.inl none, m') ∧ Fr (RLn N) m m' ∧ LN m' (N + 255) (l ++ (if 0 < x then [(w, p, x, 0)] else [])) ∧ gi_ m' (N + 243) 33 = nI (l ++ (if 0 < x then [(w, p, x, 0)] else [])).length := by
  have hX := hR.1
  by_cases h0 : 0 < x
  · have hl2 := hl h0
    rw [if_pos h0]
    refine ⟨si_ (si_ (si_ (si_ (si_ m (N + 255) (l.length * 4) (nI w)) (N + 255) (l.length * 4 + 1) (nI p)) (N + 255) (l.length * 4 + 2) (nI x)) (N + 255) (l.length * 4 + 3) (nI 0)) (N + 243) 33 (nI (l.length + 1)), ?_, ?_, ?_, ?_⟩
    · rw [c325, b325_0, gb_pos (by rw [nI_leE (by omega) hx]; omega)]
      simp (disch := omega) only [gq_true, gb_true, gb_false, true_and, and_true, eq_self, not_false_eq_true, not_true_eq_false, true_or, or_true, false_or, or_false, false_and, and_false, c0_v, ci_v, cl_v, cf_v, pk_mul, nI_add, nI_clamp, nI_lt0, nI_0le, nI_eq0, nI_lt0r, nI_ltE, nI_leE, nI_eqE, nI_m1, in_t, ba0, ba1, Nat.one_ne_zero, Nat.reduceEqDiff, Nat.reduceLeDiff, Nat.add_eq_zero_iff, xk243 hX, xr243_28 hX, xk255 hX, hr, gi_si, eq_false (show ¬ N = N + 12 by omega), if_false, Nat.mul_comm 4]
    · exact ((((((Fr.refl _ m).si (Or.inl rfl)).si (Or.inl rfl)).si (Or.inl rfl)).si (Or.inl rfl)).si (Or.inr ⟨rfl, rfl⟩))
    · refine hL.push (fun k hk => ?_) ?_ ?_ ?_ ?_
      · simp (disch := omega) only [gi_si, if_neg]
      · simp (disch := omega) only [gi_si, if_neg, if_pos, and_self, if_true]
      · simp (disch := omega) only [gi_si, if_neg, if_pos, and_self, if_true]
      · simp (disch := omega) only [gi_si, if_neg, if_pos, and_self, if_true]
      · simp (disch := omega) only [gi_si, if_neg, if_pos, and_self, if_true]
    · rw [gi_si, if_pos ⟨rfl, rfl⟩, List.length_append]; rfl
  · rw [if_neg h0, List.append_nil]
    refine ⟨m, ?_, Fr.refl _ _, hL, hr⟩
    rw [c325, b325_0, gb_neg (by rw [nI_leE (by omega) hx]; omega)]
theorem y326 (hR : RS m N s q) (hC : WC s) (hA : WA s) {l : List Ln} (w p part day : Nat) (hd : day < 2 ^ 31) (hw : w < 2 ^ 31) (hp : p < 2 ^ 31) (hpart : part ≤ 9999999) (hL : LN m (N + 255) l) (hr : gi_ m (N + 243) 33 = nI l.length) (h64 : (l ++ pl_ s w p part day).length ≤ 64) : ∃ m', am_ca sa sv (d + 3) 326 [.ref (N + 243), .int (nI w), .int (nI p), .int (nI part), .int (nI day)] m = some (.inl none, m') ∧ Fr (RLn N) m m' ∧ LN m' (N + 255) (l ++ pl_ s w p part day) ∧ gi_ m' (N + 243) 33 = nI (l ++ pl_ s w p part day).length := by
  obtain ⟨e0, b0⟩ := (wc_na hC).c (by decide)
  have hnp := isN_lt (wc_np hC) (by decide)
  have hnw := isN_lt (wc_nw hC) (by decide)
  have hsum := asu_le hA w p part day (Nat.le_refl (cN s 2))
  have hlen : ∀ n, n ≤ cN s 2 → (l ++ asg_ s w p part day n).length ≤ 64 := by
    intro n hn
    have := asg_lmono s w p part day hn
    rw [List.length_append] at h64 ⊢
    rw [pl_, List.length_append] at h64
    omega
  have step : ∀ j n m1 (o7 : Option Value), n + j = cN s 2 → Fr (RLn N) m m1 → LN m1 (N + 255) (l ++ asg_ s w p part day n) → gi_ m1 (N + 243) 33 = nI (l ++ asg_ s w p part day n).length → ∃ m', r326 sa sv (d + 2) 6 [some (.ref (N + 243)), some (.int (nI w)), some (.int (nI p)), some (.int (nI part)), some (.int (nI day)), some (.int (nI (part - asu_ s w p part day n))), some (.int (nI n)), o7] [] m1 = some (.inl none, m') ∧ Fr (RLn N) m m' ∧ LN m' (N + 255) (l ++ pl_ s w p part day) ∧ gi_ m' (N + 243) 33 = nI (l ++ pl_ s w p part day).length := by
    intro j
    induction j with
    | zero =>
      intro n m1 o7 hn hF1 hL1 hr1
      have hR1 := hR.fr (hF1.mono fun _ _ h => RLn.x h)
      have e : n = cN s 2 := by omega
      rw [e] at hL1 hr1 ⊢
      have hl9 : 0 < part - asu_ s w p part day (cN s 2) → (l ++ asg_ s w p part day (cN s 2)).length < 64 := by
        intro z
        rw [pl_, if_pos z, ← List.append_assoc, List.length_append] at h64
        simp only [List.length_singleton] at h64
        omega
      obtain ⟨m2, g1, g2, g3, g4⟩ := y325 (sa := sa) (sv := sv) (d := d + 1) hR1 hr1 hL1 w p (part - asu_ s w p part day (cN s 2)) (by omega) hl9
      refine ⟨m2, ?_, hF1.trans g2, ?_, ?_⟩
      · rw [b326_6]
        simp (disch := omega) only [gq_true, gb_true, gb_false, true_and, and_true, eq_self, not_false_eq_true, not_true_eq_false, true_or, or_true, false_or, or_false, false_and, and_false, c0_v, ci_v, cl_v, cf_v, pk_mul, nI_add, nI_clamp, nI_lt0, nI_0le, nI_eq0, nI_lt0r, nI_ltE, nI_leE, nI_eqE, nI_m1, in_t, ba0, ba1, Nat.one_ne_zero, Nat.reduceEqDiff, Nat.reduceLeDiff, Nat.add_eq_zero_iff, rk243 hR1, rr15 hR1, rk245 hR1, rr19 hR1, rk249 hR1, rs hR1, rq hR1]
        rw [e0]
        simp (disch := omega) only [gq_true, gb_true, gb_false, true_and, and_true, eq_self, not_false_eq_true, not_true_eq_false, true_or, or_true, false_or, or_false, false_and, and_false, c0_v, ci_v, cl_v, cf_v, pk_mul, nI_add, nI_clamp, nI_lt0, nI_0le, nI_eq0, nI_lt0r, nI_ltE, nI_leE, nI_eqE, nI_m1, in_t, ba0, ba1, Nat.one_ne_zero, Nat.reduceEqDiff, Nat.reduceLeDiff, Nat.add_eq_zero_iff, Nat.le_refl]
        rw [g1]; rfl
      · rw [pl_, ← List.append_assoc]; exact g3
      · rw [pl_, ← List.append_assoc]; exact g4
    | succ j ih =>
      intro n m1 o7 hn hF1 hL1 hr1
      have hR1 := hR.fr (hF1.mono fun _ _ h => RLn.x h)
      have hlt : n < cN s 2 := by omega
      obtain ⟨e1, b1⟩ := (wa_c hA n hlt).c (by decide)
      obtain ⟨e2, b2⟩ := (wa_t hA n hlt).c (by omega)
      obtain ⟨e3, b3⟩ := (wa_p hA n hlt).c (by omega)
      obtain ⟨e4, b4⟩ := (wa_w hA n hlt).c (by omega)
      have hskip : asm_ s w p day n = false → ∃ m', r326 sa sv (d + 2) 6 [some (.ref (N + 243)), some (.int (nI w)), some (.int (nI p)), some (.int (nI part)), some (.int (nI day)), some (.int (nI (part - asu_ s w p part day n))), some (.int (nI (n + 1))), o7] [] m1 = some (.inl none, m') ∧ Fr (RLn N) m m' ∧ LN m' (N + 255) (l ++ pl_ s w p part day) ∧ gi_ m' (N + 243) 33 = nI (l ++ pl_ s w p part day).length := by
        intro ha
        have h1 : asg_ s w p part day (n + 1) = asg_ s w p part day n := by rw [asg_, ha, if_neg (by rintro ⟨z, -⟩; cases z), List.append_nil]
        have h2 : asu_ s w p part day (n + 1) = asu_ s w p part day n := by show asu_ s w p part day n + (bif asm_ s w p day n then _ else 0) = _; rw [ha]; rfl
        have := ih (n + 1) m1 o7 (by omega) hF1 (by rw [h1]; exact hL1) (by rw [h1]; exact hr1)
        rw [h2] at this
        exact this
      rw [b326_6]
      simp (disch := omega) only [gq_true, gb_true, gb_false, true_and, and_true, eq_self, not_false_eq_true, not_true_eq_false, true_or, or_true, false_or, or_false, false_and, and_false, c0_v, ci_v, cl_v, cf_v, pk_mul, nI_add, nI_clamp, nI_lt0, nI_0le, nI_eq0, nI_lt0r, nI_ltE, nI_leE, nI_eqE, nI_m1, in_t, ba0, ba1, Nat.one_ne_zero, Nat.reduceEqDiff, Nat.reduceLeDiff, Nat.add_eq_zero_iff, rk243 hR1, rr15 hR1, rk245 hR1, rr19 hR1, rk249 hR1, rs hR1, rq hR1]
      rw [e0]
      simp (disch := omega) only [gq_true, gb_true, gb_false, true_and, and_true, eq_self, not_false_eq_true, not_true_eq_false, true_or, or_true, false_or, or_false, false_and, and_false, c0_v, ci_v, cl_v, cf_v, pk_mul, nI_add, nI_clamp, nI_lt0, nI_0le, nI_eq0, nI_lt0r, nI_ltE, nI_leE, nI_eqE, nI_m1, in_t, ba0, ba1, Nat.one_ne_zero, Nat.reduceEqDiff, Nat.reduceLeDiff, Nat.add_eq_zero_iff, rk243 hR1, y257 hR1 n 0 (by omega), e3, y257 hR1 n 1 (by omega), e4, y277 hR1 hC hA n day hlt hd, tr_0, y257 hR1 n 3 (by omega), e1, y324, y257 hR1 n 2 (by omega), e2]
      rw [gb_neg (by omega)]
      by_cases hp1 : cN s (594 + 6 * n + 0) = p
      · rw [gb_pos hp1]
        by_cases hw1 : cN s (594 + 6 * n + 1) = w
        · rw [gb_pos hw1]
          cases hf : isf_ s n day with
          | false =>
            rw [gb_pos rfl]
            exact hskip (by unfold asm_; rw [hf, Bool.and_false])
          | true =>
            rw [gb_neg (by decide)]
            have ha : asm_ s w p day n = true := by unfold asm_; rw [hf, decide_eq_true ⟨hp1, hw1⟩]; rfl
            have hmul : part * cN s (594 + 6 * n + 3) ≤ 9999999 * 100 := Nat.mul_le_mul hpart (by omega)
            have h2 : asu_ s w p part day (n + 1) = asu_ s w p part day n + part * cN s (594 + 6 * n + 3) / 100 := by show asu_ s w p part day n + (bif asm_ s w p day n then _ else 0) = _; rw [ha]; rfl
            have h3 := asu_mono s w p part day (show n + 1 ≤ cN s 2 from hlt)
            have h1 : asg_ s w p part day (n + 1) = asg_ s w p part day n ++ (if 0 < part * cN s (594 + 6 * n + 3) / 100 then [(w, cN s (594 + 6 * n + 2), part * cN s (594 + 6 * n + 3) / 100, 0)] else []) := by
              rw [asg_, ha]
              simp only [true_and]
            have hl9 : 0 < part * cN s (594 + 6 * n + 3) / 100 → (l ++ asg_ s w p part day n).length < 64 := by
              intro z
              have h5 := hlen (n + 1) hlt
              rw [h1, if_pos z, ← List.append_assoc, List.length_append] at h5
              simp only [List.length_singleton] at h5
              omega
            rw [pct_nI (by omega), pk_sub (by omega), show part - asu_ s w p part day n - part * cN s (594 + 6 * n + 3) / 100 = part - asu_ s w p part day (n + 1) by omega]
            obtain ⟨m2, g1, g2, g3, g4⟩ := y325 (sa := sa) (sv := sv) (d := d + 1) hR1 hr1 hL1 w (cN s (594 + 6 * n + 2)) (part * cN s (594 + 6 * n + 3) / 100) (by omega) hl9
            rw [g1, c0_v]
            exact ih (n + 1) m2 _ (by omega) (hF1.trans g2) (by rw [h1, ← List.append_assoc]; exact g3) (by rw [h1, ← List.append_assoc]; exact g4)
        · rw [gb_neg hw1]
          exact hskip (by unfold asm_; rw [decide_eq_false (fun z => hw1 z.2)]; rfl)
      · rw [gb_neg hp1]
        exact hskip (by unfold asm_; rw [decide_eq_false (fun z => hp1 z.1)]; rfl)
  rw [c326, b326_0]
  exact step (cN s 2) 0 m none (Nat.zero_add _) (Fr.refl _ _) (by show LN m (N + 255) (l ++ []); rw [List.append_nil]; exact hL) (by show gi_ m (N + 243) 33 = nI (l ++ []).length; rw [List.append_nil]; exact hr)
theorem y327 (hR : RS m N s q) (hC : WC s) (hW : WW s) (hA : WA s) {l : List Ln} (w c day : Nat) (hw : w < cN s 1) (hc : c ≤ 9999999) (hd : day < 2 ^ 31) (hL : LN m (N + 255) l) (hr : gi_ m (N + 243) 33 = nI l.length) (h64 : (l ++ shs_ s w (spl_ s w day) c day (cN s (23 + 48 * w + spl_ s w day))).length ≤ 64) : ∃ m', am_ca sa sv (d + 4) 327 [.ref (N + 243), .int (nI w), .int (nI c), .int (nI day)] m = some (.inl none, m') ∧ Fr (RLn N) m m' ∧ LN m' (N + 255) (l ++ shs_ s w (spl_ s w day) c day (cN s (23 + 48 * w + spl_ s w day))) ∧ gi_ m' (N + 243) 33 = nI (l ++ shs_ s w (spl_ s w day) c day (cN s (23 + 48 * w + spl_ s w day))).length := by
  have hnw := isN_lt (wc_nw hC) (by decide)
  have hnp := isN_lt (wc_np hC) (by decide)
  have hk := spl_lt hW w day hw
  have hk4 := isN_lt (ww_ns hW w hw).1 (by decide)
  have hsp := y292 (sa := sa) (sv := sv) (d := d + 1) hR hC hW w day hw hd
  generalize spl_ s w day = k at *
  obtain ⟨h1, b1'⟩ := ww_nh hW w k hw hk
  obtain ⟨e1, b1⟩ := h1.c (by decide)
  have hprt := prt_le hW c hw hk
  have hshp := shp_le hW c hw hk (Nat.le_refl (cN s (23 + 48 * w + k)))
  have hct : cts_ s w k c ≤ 9999999 := by unfold cts_; omega
  have second : ∀ n i m1, i + n = cN s (23 + 48 * w + k) → Fr (RLn N) m m1 → LN m1 (N + 255) (l ++ shs_ s w k c day i) → gi_ m1 (N + 243) 33 = nI (l ++ shs_ s w k c day i).length → ∃ m', r327 sa sv (d + 3) 65 [some (.ref (N + 243)), some (.int (nI w)), some (.int (nI c)), some (.int (nI day)), some (.int (nI k)), some (.int (nI (cN s (23 + 48 * w + k)))), some (.int (nI (cts_ s w k c))), some (.int (nI i))] [] m1 = some (.inl none, m') ∧ Fr (RLn N) m m' ∧ LN m' (N + 255) (l ++ shs_ s w k c day (cN s (23 + 48 * w + k))) ∧ gi_ m' (N + 243) 33 = nI (l ++ shs_ s w k c day (cN s (23 + 48 * w + k))).length := by
    intro n
    induction n with
    | zero =>
      intro i m1 hi hF1 hL1 hr1
      have e : i = cN s (23 + 48 * w + k) := by omega
      refine ⟨m1, ?_, hF1, by rw [← e]; exact hL1, by rw [← e]; exact hr1⟩
      rw [b327_65, gb_pos (by rw [nI_leE (by omega) (by omega)]; omega)]
    | succ n ih =>
      intro i m1 hi hF1 hL1 hr1
      have hR1 := hR.fr (hF1.mono fun _ _ h => RLn.x h)
      obtain ⟨e2, b2⟩ := (ww_hp hW w k i hw hk (by omega)).c (by omega)
      obtain ⟨h3, -⟩ := ww_hc hW w k i hw hk (by omega)
      obtain ⟨e3, b3⟩ := h3.c (by decide)
      have hmul : c * cN s (43 + 48 * w + 4 * k + i) ≤ 9999999 * 100 := Nat.mul_le_mul hc (by omega)
      have hpi := sum_ge (prt_ s w k c) (show i < cN s (23 + 48 * w + k) by omega)
      have e9 : shs_ s w k c day (i + 1) = shs_ s w k c day i ++ pl_ s w (cN s (27 + 48 * w + 4 * k + i)) (prt_ s w k c i) day := rfl
      have hln : (l ++ shs_ s w k c day (i + 1)).length ≤ 64 := by
        have := shs_lmono s w k c day (show i + 1 ≤ cN s (23 + 48 * w + k) by omega)
        rw [List.length_append] at h64 ⊢
        omega
      rw [e9, ← List.append_assoc] at hln
      obtain ⟨m2, g1, g2, g3, g4⟩ := y326 (sa := sa) (sv := sv) (d := d) hR1 hC hA w (cN s (27 + 48 * w + 4 * k + i)) (prt_ s w k c i) day hd (by omega) (by omega) (by omega) hL1 hr1 hln
      obtain ⟨m', k1, k2⟩ := ih (i + 1) m2 (by omega) (hF1.trans g2) (by rw [e9, ← List.append_assoc]; exact g3) (by rw [e9, ← List.append_assoc]; exact g4)
      refine ⟨m', ?_, k2⟩
      rw [b327_65, gb_neg (by rw [nI_leE (by omega) (by omega)]; omega)]
      simp (disch := omega) only [gq_true, gb_true, gb_false, true_and, and_true, eq_self, not_false_eq_true, not_true_eq_false, true_or, or_true, false_or, or_false, false_and, and_false, c0_v, ci_v, cl_v, cf_v, pk_mul, nI_add, nI_clamp, nI_lt0, nI_0le, nI_eq0, nI_lt0r, nI_ltE, nI_leE, nI_eqE, nI_m1, in_t, ba0, ba1, Nat.one_ne_zero, Nat.reduceEqDiff, Nat.reduceLeDiff, Nat.add_eq_zero_iff, rk243 hR1, y256 hR1 w (9 + 4 * k + i) (27 + 48 * w + 4 * k + i) (by omega) (by omega), e2, y256 hR1 w (25 + 4 * k + i) (43 + 48 * w + 4 * k + i) (by omega) (by omega), e3, y324, pct_nI (show c * cN s (43 + 48 * w + 4 * k + i) < 2 ^ 31 by omega), y223_0, y223_1]
      by_cases hlt : i < cts_ s w k c
      · have hpe : c * cN s (43 + 48 * w + 4 * k + i) / 100 + 1 = prt_ s w k c i := by unfold prt_; rw [if_pos hlt]; rfl
        rw [gb_neg (by omega), hpe, g1, c0_v]
        exact k1
      · have hpe : c * cN s (43 + 48 * w + 4 * k + i) / 100 + 0 = prt_ s w k c i := by unfold prt_; rw [if_neg hlt]; rfl
        rw [gb_pos (by omega), hpe, g1, c0_v]
        exact k1
  have first : ∀ n i, i + n = cN s (23 + 48 * w + k) → r327 sa sv (d + 3) 25 [some (.ref (N + 243)), some (.int (nI w)), some (.int (nI c)), some (.int (nI day)), some (.int (nI k)), some (.int (nI (cN s (23 + 48 * w + k)))), some (.int (nI (c - sum_ (shp_ s w k c) i))), some (.int (nI i))] [] m = r327 sa sv (d + 3) 65 [some (.ref (N + 243)), some (.int (nI w)), some (.int (nI c)), some (.int (nI day)), some (.int (nI k)), some (.int (nI (cN s (23 + 48 * w + k)))), some (.int (nI (cts_ s w k c))), some (.int (nI 0))] [] m := by
    intro n
    induction n with
    | zero =>
      intro i hi
      have e : i = cN s (23 + 48 * w + k) := by omega
      rw [b327_25, gb_pos (by rw [nI_leE (by omega) (by omega)]; omega), e]
      rfl
    | succ n ih =>
      intro i hi
      obtain ⟨h3, -⟩ := ww_hc hW w k i hw hk (by omega)
      obtain ⟨e3, b3⟩ := h3.c (by decide)
      have hmul : c * cN s (43 + 48 * w + 4 * k + i) ≤ 9999999 * 100 := Nat.mul_le_mul hc (by omega)
      have hm := sum_mono (shp_ s w k c) (show i + 1 ≤ cN s (23 + 48 * w + k) by omega)
      rw [sum_s] at hm
      have hse : shp_ s w k c i = c * cN s (43 + 48 * w + 4 * k + i) / 100 := rfl
      rw [b327_25, gb_neg (by rw [nI_leE (by omega) (by omega)]; omega)]
      simp (disch := omega) only [gq_true, gb_true, gb_false, true_and, and_true, eq_self, not_false_eq_true, not_true_eq_false, true_or, or_true, false_or, or_false, false_and, and_false, c0_v, ci_v, cl_v, cf_v, pk_mul, nI_add, nI_clamp, nI_lt0, nI_0le, nI_eq0, nI_lt0r, nI_ltE, nI_leE, nI_eqE, nI_m1, in_t, ba0, ba1, Nat.one_ne_zero, Nat.reduceEqDiff, Nat.reduceLeDiff, Nat.add_eq_zero_iff, rk243 hR, y256 hR w (25 + 4 * k + i) (43 + 48 * w + 4 * k + i) (by omega) (by omega), e3, y324, pct_nI (show c * cN s (43 + 48 * w + 4 * k + i) < 2 ^ 31 by omega)]
      rw [pk_sub (by omega), ← hse, show c - sum_ (shp_ s w k c) i - shp_ s w k c i = c - sum_ (shp_ s w k c) (i + 1) by rw [sum_s]; omega]
      exact ih (i + 1) (by omega)
  obtain ⟨m', g1, g2⟩ := second _ 0 m (Nat.zero_add _) (Fr.refl _ _) (by show LN m (N + 255) (l ++ []); rw [List.append_nil]; exact hL) (by show gi_ m (N + 243) 33 = nI (l ++ []).length; rw [List.append_nil]; exact hr)
  refine ⟨m', ?_, g2⟩
  rw [c327, b327_0]
  simp (disch := omega) only [gq_true, gb_true, gb_false, true_and, and_true, eq_self, not_false_eq_true, not_true_eq_false, true_or, or_true, false_or, or_false, false_and, and_false, c0_v, ci_v, cl_v, cf_v, pk_mul, nI_add, nI_clamp, nI_lt0, nI_0le, nI_eq0, nI_lt0r, nI_ltE, nI_leE, nI_eqE, nI_m1, in_t, ba0, ba1, Nat.one_ne_zero, Nat.reduceEqDiff, Nat.reduceLeDiff, Nat.add_eq_zero_iff, rk243 hR, hsp, y256 hR w (5 + k) (23 + 48 * w + k) (by omega) (by omega), e1]
  have h9 := first _ 0 (Nat.zero_add _)
  rw [show c - sum_ (shp_ s w k c) 0 = c from rfl] at h9
  exact h9.trans g1
end R62
