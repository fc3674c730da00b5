/-! the reference answers: the rest of its reading methods -/
theorem shr_pos {s : Nat → Int32} (hC : WC s) (hW : WW s) {w k : Nat} (hw : w < cN s 1) (hk : k < cN s (18 + 48 * w)) (p : Nat) : (shr_ s w k p ≤ 0) = ¬ ∃ j, j < cN s (23 + 48 * w + k) ∧ cN s (27 + 48 * w + 4 * k + j) = p := by
  unfold shr_ shj_
  rcases fst_spec (fun j => decide (cN s (27 + 48 * w + 4 * k + j) = p)) (cN s (23 + 48 * w + k)) 0 with ⟨a1, a2⟩ | ⟨a1, a2, a3, a4⟩
  · rw [if_neg (by omega)]
    refine propext ⟨fun _ => ?_, fun _ => by decide⟩
    rintro ⟨j, h1, h2⟩
    exact (of_decide_eq_false (a2 j (by omega) (by omega))) h2
  · rw [if_pos (by omega)]
    obtain ⟨h1, h2⟩ := ww_hc hW w k _ hw hk (show fst_ (fun j => decide (cN s (27 + 48 * w + 4 * k + j) = p)) (cN s (23 + 48 * w + k)) 0 < _ by omega)
    obtain ⟨e1, b1⟩ := h1.c (by decide)
    rw [e1]
    refine propext ⟨fun z => ?_, fun z => ?_⟩
    · rw [nI_le0 (by omega)] at z; omega
    · exact absurd ⟨_, by omega, of_decide_eq_true a3⟩ z
/-- a set by a test of each -/
def msk_ (P : Nat → Bool) : Nat → Nat
  | 0 => 0
  | n + 1 => msk_ P n ||| (bif P n then 1 else 0) * 2 ^ n
theorem msk_tb (P : Nat → Bool) (i : Nat) : ∀ n, (msk_ P n).testBit i = (decide (i < n) && P i) := by
  intro n
  induction n with
  | zero => rw [msk_, Nat.zero_testBit, decide_eq_false (by omega)]; rfl
  | succ n ih =>
    rw [msk_, Nat.testBit_or, ih]
    cases h : P n with
    | false =>
      rw [cond_false, Nat.zero_mul, Nat.zero_testBit, Bool.or_false]
      by_cases e : i = n
      · subst e; rw [h, Bool.and_false, Bool.and_false]
      · rw [show decide (i < n + 1) = decide (i < n) from decide_eq_decide.mpr (by omega)]
    | true =>
      rw [cond_true, Nat.one_mul, Nat.testBit_two_pow]
      by_cases e : i = n
      · subst e; rw [h, decide_eq_true rfl, decide_eq_true (by omega : i < i + 1), Bool.or_true]; rfl
      · rw [show decide (i < n + 1) = decide (i < n) from decide_eq_decide.mpr (by omega), decide_eq_false (show ¬ n = i from fun z => e z.symm), Bool.or_false]
theorem msk_lt (P : Nat → Bool) : ∀ n, msk_ P n < 2 ^ n := by
  intro n
  induction n with
  | zero => exact Nat.one_pos
  | succ n ih =>
    refine Nat.or_lt_two_pow (Nat.lt_of_lt_of_le ih (Nat.pow_le_pow_right (by decide) (Nat.le_succ n))) ?_
    have := Nat.pow_lt_pow_right (by decide : 1 < 2) (Nat.lt_succ_self n)
    cases P n
    · rw [cond_false, Nat.zero_mul]; exact Nat.two_pow_pos _
    · rw [cond_true, Nat.one_mul]; exact this
theorem own_eq {s : Nat → Int32} (hC : WC s) (hW : WW s) {w k : Nat} (hw : w < cN s 1) (hk : k < cN s (18 + 48 * w)) : msk_ (fun p => !decide (shr_ s w k p ≤ 0)) (cN s 0) = orF_ (fun j => cN s (27 + 48 * w + 4 * k + j)) (cN s (23 + 48 * w + k)) := by
  apply Nat.eq_of_testBit_eq
  intro i
  rw [msk_tb, orF_tb, ← decide_not, ← Bool.decide_and]
  refine decide_eq_decide.mpr ?_
  rw [shr_pos hC hW hw hk, Classical.not_not]
  refine ⟨fun z => z.2, fun z => ⟨?_, z⟩⟩
  obtain ⟨j, h1, h2⟩ := z
  have := isN_lt (ww_hp hW w k j hw hk h1) (by have := isN_lt (wc_np hC) (by decide); omega)
  omega
theorem off_eq {s : Nat → Int32} (hC : WC s) (hW : WW s) {w : Nat} : ∀ n, n ≤ cN s 1 → msk_ (fun v => (rts_ s v).testBit w) n = off_ s w n := by
  intro n
  induction n with
  | zero => exact fun _ => rfl
  | succ n ih =>
    intro hn
    rw [msk_, off_, ih (by omega)]
    by_cases h : w < n
    · rw [decide_eq_true h, Bool.true_and]
      cases (rts_ s n).testBit w with
      | false => rw [cond_false, cond_false, Nat.zero_mul, Nat.or_zero]
      | true => rw [cond_true, cond_true, Nat.one_mul]
    · have : (rts_ s n).testBit w = false := Nat.testBit_lt_two_pow (Nat.lt_of_lt_of_le (rts_lt hC hW (by omega)) (Nat.pow_le_pow_right (by decide) (by omega)))
      rw [decide_eq_false h, this]
      rw [Bool.false_and, cond_false, cond_false, Nat.zero_mul, Nat.or_zero]
theorem dear_nn (q : Nat → Int64) : ∀ n, (0 : Int64) ≤ (dear_ q n).2 := by
  intro n
  induction n with
  | zero => exact Int64.le_refl 0
  | succ n ih =>
    show 0 ≤ (if (dear_ q n).2 < q (200 + n) then (nI n, q (200 + n)) else dear_ q n).2
    by_cases h : (dear_ q n).2 < q (200 + n)
    · rw [if_pos h]; exact Int64.le_trans ih (Int64.le_of_lt h)
    · rw [if_neg h]; exact ih
theorem dear_eq {s : Nat → Int32} {q : Nat → Int64} (hZ : WZ s q) : ∀ n, cN s 1 ≤ n → n ≤ 12 → dear_ q n = dear_ q (cN s 1) := by
  intro n
  induction n with
  | zero => intro h _; rw [show cN s 1 = 0 by omega]
  | succ n ih =>
    intro h1 h2
    by_cases e : cN s 1 = n + 1
    · rw [e]
    · rw [← ih (by omega) (by omega)]
      show (if (dear_ q n).2 < q (200 + n) then (nI n, q (200 + n)) else dear_ q n) = dear_ q n
      rw [if_neg]
      rw [wz_w hZ n (by omega) (by omega)]
      exact Int64.not_lt.mpr (dear_nn q n)
theorem nI_shm {b : Bool} {k : Nat} (hk : k < 16) : nI (bif b then 1 else 0) <<< (nI k &&& 31) = nI ((bif b then 1 else 0) * 2 ^ k) := by
  cases b
  · rw [cond_false, Nat.zero_mul]
    exact (by decide +kernel : ∀ k, k < 16 → nI 0 <<< (nI k &&& 31) = nI 0) k hk
  · rw [cond_true, Nat.one_mul]; exact nI_sh1 k hk
section R51
variable {sa sv d N B : Nat} {m : am_M} {s : Nat → Int32} {q : Nat → Int64}
theorem y289 (hR : RS m N s q) (hF : WF B s q) (hB : B < 2 ^ 30) (l0 : Int32) : am_ca sa sv (d + 4) 289 [.ref (N + 243), .int l0] m = (bif inR l0 7 then some (.inl (some (.int (cnt_ s l0.toNatClampNeg))), si_ m (N + 243) 0 (nI (0))) else some (.inl (some (.int (nI 0))), si_ m (N + 243) 0 (nI (1)))) := by
  have hC := wf_c hF
  have hW := wf_w hF
  have hA := wf_a hF
  have hD := wf_d hF
  have hK := wf_k hF
  have hR3 := hR.c 0 (nI 0)
  obtain ⟨e0, b0⟩ := (wc_np hC).c (by decide)
  obtain ⟨e1, b1⟩ := (wc_nw hC).c (by decide)
  obtain ⟨e2, b2⟩ := (wc_na hC).c (by decide)
  obtain ⟨e3, b3⟩ := (wc_nd hC).c (by decide)
  obtain ⟨e4, b4⟩ := (wc_day hC).c (by decide)
  obtain ⟨e5, b5⟩ := (wk_c hK).c (by omega)
  obtain ⟨e6, b6⟩ := (wc_nl hC).c (by decide)
  have e7' : cN s 7 = min (cN s 5) 5 := cN_ (wk_k hK) (by omega)
  have e7 : s 7 = nI (cN s 7) := by rw [e7']; exact wk_k hK
  have b7 : cN s 7 < 6 := by omega
  cases hb : inR l0 7 with
  | false =>
    rw [c289, b289_0]
    simp (disch := omega) only [gq_true, gb_true, gb_false, true_and, and_true, eq_self, not_false_eq_true, not_true_eq_false, true_or, or_true, false_or, or_false, false_and, and_false, c0_v, ci_v, cl_v, cf_v, pk_mul, nI_add, nI_clamp, nI_lt0, nI_0le, nI_eq0, nI_lt0r, nI_ltE, nI_leE, nI_eqE, nI_m1, in_t, ba0, ba1, Nat.one_ne_zero, Nat.reduceEqDiff, Nat.reduceLeDiff, Nat.add_eq_zero_iff, rk243 hR, rr15 hR, rk245 hR, rr19 hR, rk249 hR, rs hR, rq hR, y222, y223_0, y223_1, y225_0 hR, y225_1 hR, y226_00 hR, y226_01 hR, y226_10 hR, y226_11 hR, y285 hR hC, y286 hR hC, y287 hR hC, y288 hR hC, tr_t, tr_f, yinN, yin _ (3 : Int64) 4 (by decide), yin _ (4 : Int64) 5 (by decide), yin _ (2 : Int64) 3 (by decide), yin _ (5 : Int64) 6 (by decide), yin _ (6 : Int64) 7 (by decide), yin _ (1 : Int64) 2 (by decide), yin _ (9999 : Int64) 10000 (by decide), cond_true, cond_false, hb]
  | true =>
    obtain ⟨k0, hk0, rfl⟩ := (inR_t (by decide)).mp hb
    rw [c289, b289_0]
    rcases (show k0 = 0 ∨ k0 = 1 ∨ k0 = 2 ∨ k0 = 3 ∨ k0 = 4 ∨ k0 = 5 ∨ k0 = 6 by omega) with rfl | rfl | rfl | rfl | rfl | rfl | rfl
    all_goals (simp (disch := omega) only [gq_true, gb_true, gb_false, true_and, and_true, eq_self, not_false_eq_true, not_true_eq_false, true_or, or_true, false_or, or_false, false_and, and_false, c0_v, ci_v, cl_v, cf_v, pk_mul, nI_add, nI_clamp, nI_lt0, nI_0le, nI_eq0, nI_lt0r, nI_ltE, nI_leE, nI_eqE, nI_m1, in_t, ba0, ba1, Nat.one_ne_zero, Nat.reduceEqDiff, Nat.reduceLeDiff, Nat.add_eq_zero_iff, rk243 hR, rr15 hR, rk245 hR, rr19 hR, rk249 hR, rs hR, rq hR, y222, y223_0, y223_1, y225_0 hR, y225_1 hR, y226_00 hR, y226_01 hR, y226_10 hR, y226_11 hR, y285 hR hC, y286 hR hC, y287 hR hC, y288 hR hC, tr_t, tr_f, yinN, yin _ (3 : Int64) 4 (by decide), yin _ (4 : Int64) 5 (by decide), yin _ (2 : Int64) 3 (by decide), yin _ (5 : Int64) 6 (by decide), yin _ (6 : Int64) 7 (by decide), yin _ (1 : Int64) 2 (by decide), yin _ (9999 : Int64) 10000 (by decide), cond_true, cond_false, hb, rk243 hR3, rr15 hR3, rk245 hR3, rr19 hR3, rk249 hR3, rs hR3, rq hR3]; rfl)
theorem y295 (hR : RS m N s q) (hF : WF B s q) (hB : B < 2 ^ 30) (l0 l1 l2 : Int32) : am_ca sa sv (d + 4) 295 [.ref (N + 243), .int l0, .int l1, .int l2] m = (bif inR l0 (cN s 1) then (bif inR l2 (cN s 0) then (bif inR l1 (cN s (18 + 48 * l0.toNatClampNeg)) then some (.inl (some (.int (shr_ s l0.toNatClampNeg l1.toNatClampNeg l2.toNatClampNeg))), si_ m (N + 243) 0 (nI (0))) else some (.inl (some (.int (nI 0))), si_ m (N + 243) 0 (nI (1)))) else some (.inl (some (.int (nI 0))), si_ m (N + 243) 0 (nI (1)))) else some (.inl (some (.int (nI 0))), si_ m (N + 243) 0 (nI (1)))) := by
  have hC := wf_c hF
  have hW := wf_w hF
  have hA := wf_a hF
  have hD := wf_d hF
  have hK := wf_k hF
  have hR3 := hR.c 0 (nI 0)
  obtain ⟨e0, b0⟩ := (wc_np hC).c (by decide)
  obtain ⟨e1, b1⟩ := (wc_nw hC).c (by decide)
  obtain ⟨e2, b2⟩ := (wc_na hC).c (by decide)
  obtain ⟨e3, b3⟩ := (wc_nd hC).c (by decide)
  obtain ⟨e4, b4⟩ := (wc_day hC).c (by decide)
  obtain ⟨e5, b5⟩ := (wk_c hK).c (by omega)
  obtain ⟨e6, b6⟩ := (wc_nl hC).c (by decide)
  have e7' : cN s 7 = min (cN s 5) 5 := cN_ (wk_k hK) (by omega)
  have e7 : s 7 = nI (cN s 7) := by rw [e7']; exact wk_k hK
  have b7 : cN s 7 < 6 := by omega
  cases hb : inR l0 (cN s 1) with
  | false =>
    rw [c295, b295_0]
    simp (disch := omega) only [gq_true, gb_true, gb_false, true_and, and_true, eq_self, not_false_eq_true, not_true_eq_false, true_or, or_true, false_or, or_false, false_and, and_false, c0_v, ci_v, cl_v, cf_v, pk_mul, nI_add, nI_clamp, nI_lt0, nI_0le, nI_eq0, nI_lt0r, nI_ltE, nI_leE, nI_eqE, nI_m1, in_t, ba0, ba1, Nat.one_ne_zero, Nat.reduceEqDiff, Nat.reduceLeDiff, Nat.add_eq_zero_iff, rk243 hR, rr15 hR, rk245 hR, rr19 hR, rk249 hR, rs hR, rq hR, y222, y223_0, y223_1, y225_0 hR, y225_1 hR, y226_00 hR, y226_01 hR, y226_10 hR, y226_11 hR, y285 hR hC, y286 hR hC, y287 hR hC, y288 hR hC, tr_t, tr_f, yinN, yin _ (3 : Int64) 4 (by decide), yin _ (4 : Int64) 5 (by decide), yin _ (2 : Int64) 3 (by decide), yin _ (5 : Int64) 6 (by decide), yin _ (6 : Int64) 7 (by decide), yin _ (1 : Int64) 2 (by decide), yin _ (9999 : Int64) 10000 (by decide), cond_true, cond_false, hb]
  | true =>
    obtain ⟨k0, hk0, rfl⟩ := (inR_t (by omega)).mp hb
    rw [nI_clamp (by omega)]
    obtain ⟨h1, h1'⟩ := ww_ns hW k0 hk0
    obtain ⟨e8, b8⟩ := h1.c (by decide)
    cases hc : inR l2 (cN s 0) with
    | false =>
      rw [c295, b295_0]
      simp (disch := omega) only [gq_true, gb_true, gb_false, true_and, and_true, eq_self, not_false_eq_true, not_true_eq_false, true_or, or_true, false_or, or_false, false_and, and_false, c0_v, ci_v, cl_v, cf_v, pk_mul, nI_add, nI_clamp, nI_lt0, nI_0le, nI_eq0, nI_lt0r, nI_ltE, nI_leE, nI_eqE, nI_m1, in_t, ba0, ba1, Nat.one_ne_zero, Nat.reduceEqDiff, Nat.reduceLeDiff, Nat.add_eq_zero_iff, rk243 hR, rr15 hR, rk245 hR, rr19 hR, rk249 hR, rs hR, rq hR, y222, y223_0, y223_1, y225_0 hR, y225_1 hR, y226_00 hR, y226_01 hR, y226_10 hR, y226_11 hR, y285 hR hC, y286 hR hC, y287 hR hC, y288 hR hC, tr_t, tr_f, yinN, yin _ (3 : Int64) 4 (by decide), yin _ (4 : Int64) 5 (by decide), yin _ (2 : Int64) 3 (by decide), yin _ (5 : Int64) 6 (by decide), yin _ (6 : Int64) 7 (by decide), yin _ (1 : Int64) 2 (by decide), yin _ (9999 : Int64) 10000 (by decide), cond_true, cond_false, hb, hc]
    | true =>
      obtain ⟨k2, hk2, rfl⟩ := (inR_t (by omega)).mp hc
      cases hd : inR l1 (cN s (18 + 48 * k0)) with
      | false =>
        rw [c295, b295_0]
        simp (disch := omega) only [gq_true, gb_true, gb_false, true_and, and_true, eq_self, not_false_eq_true, not_true_eq_false, true_or, or_true, false_or, or_false, false_and, and_false, c0_v, ci_v, cl_v, cf_v, pk_mul, nI_add, nI_clamp, nI_lt0, nI_0le, nI_eq0, nI_lt0r, nI_ltE, nI_leE, nI_eqE, nI_m1, in_t, ba0, ba1, Nat.one_ne_zero, Nat.reduceEqDiff, Nat.reduceLeDiff, Nat.add_eq_zero_iff, rk243 hR, rr15 hR, rk245 hR, rr19 hR, rk249 hR, rs hR, rq hR, y222, y223_0, y223_1, y225_0 hR, y225_1 hR, y226_00 hR, y226_01 hR, y226_10 hR, y226_11 hR, y285 hR hC, y286 hR hC, y287 hR hC, y288 hR hC, tr_t, tr_f, yinN, yin _ (3 : Int64) 4 (by decide), yin _ (4 : Int64) 5 (by decide), yin _ (2 : Int64) 3 (by decide), yin _ (5 : Int64) 6 (by decide), yin _ (6 : Int64) 7 (by decide), yin _ (1 : Int64) 2 (by decide), yin _ (9999 : Int64) 10000 (by decide), cond_true, cond_false, hb, hc, y256 hR k0 0 (18 + 48 * k0) (by omega) (by omega), e8, hd]
      | true =>
        obtain ⟨k1, hk1, rfl⟩ := (inR_t (by omega)).mp hd
        rw [c295, b295_0]
        simp (disch := omega) only [gq_true, gb_true, gb_false, true_and, and_true, eq_self, not_false_eq_true, not_true_eq_false, true_or, or_true, false_or, or_false, false_and, and_false, c0_v, ci_v, cl_v, cf_v, pk_mul, nI_add, nI_clamp, nI_lt0, nI_0le, nI_eq0, nI_lt0r, nI_ltE, nI_leE, nI_eqE, nI_m1, in_t, ba0, ba1, Nat.one_ne_zero, Nat.reduceEqDiff, Nat.reduceLeDiff, Nat.add_eq_zero_iff, rk243 hR, rr15 hR, rk245 hR, rr19 hR, rk249 hR, rs hR, rq hR, y222, y223_0, y223_1, y225_0 hR, y225_1 hR, y226_00 hR, y226_01 hR, y226_10 hR, y226_11 hR, y285 hR hC, y286 hR hC, y287 hR hC, y288 hR hC, tr_t, tr_f, yinN, yin _ (3 : Int64) 4 (by decide), yin _ (4 : Int64) 5 (by decide), yin _ (2 : Int64) 3 (by decide), yin _ (5 : Int64) 6 (by decide), yin _ (6 : Int64) 7 (by decide), yin _ (1 : Int64) 2 (by decide), yin _ (9999 : Int64) 10000 (by decide), cond_true, cond_false, hb, hc, y256 hR k0 0 (18 + 48 * k0) (by omega) (by omega), e8, hd, rk243 hR3, rr15 hR3, rk245 hR3, rr19 hR3, rk249 hR3, rs hR3, rq hR3, y294 hR3 hC hW k0 k1 k2 hk0 hk1 (by omega)]
theorem y298 (hR : RS m N s q) (hF : WF B s q) (hB : B < 2 ^ 30) (l0 l1 l2 : Int32) : am_ca sa sv (d + 4) 298 [.ref (N + 243), .int l0, .int l1, .int l2] m = (bif inR l0 (cN s 1) then (bif inR l1 (cN s (59 + 48 * l0.toNatClampNeg)) then (bif inR l2 2 then some (.inl (some (.int (if l2 = nI 0 then s (60 + 48 * l0.toNatClampNeg + l1.toNatClampNeg) else s (63 + 48 * l0.toNatClampNeg + l1.toNatClampNeg)))), si_ m (N + 243) 0 (nI (0))) else some (.inl (some (.int (nI 0))), si_ m (N + 243) 0 (nI (2)))) else some (.inl (some (.int (nI 0))), si_ m (N + 243) 0 (nI (1)))) else some (.inl (some (.int (nI 0))), si_ m (N + 243) 0 (nI (1)))) := by
  have hC := wf_c hF
  have hW := wf_w hF
  have hA := wf_a hF
  have hD := wf_d hF
  have hK := wf_k hF
  have hR3 := hR.c 0 (nI 0)
  obtain ⟨e0, b0⟩ := (wc_np hC).c (by decide)
  obtain ⟨e1, b1⟩ := (wc_nw hC).c (by decide)
  obtain ⟨e2, b2⟩ := (wc_na hC).c (by decide)
  obtain ⟨e3, b3⟩ := (wc_nd hC).c (by decide)
  obtain ⟨e4, b4⟩ := (wc_day hC).c (by decide)
  obtain ⟨e5, b5⟩ := (wk_c hK).c (by omega)
  obtain ⟨e6, b6⟩ := (wc_nl hC).c (by decide)
  have e7' : cN s 7 = min (cN s 5) 5 := cN_ (wk_k hK) (by omega)
  have e7 : s 7 = nI (cN s 7) := by rw [e7']; exact wk_k hK
  have b7 : cN s 7 < 6 := by omega
  cases hb : inR l0 (cN s 1) with
  | false =>
    cases hd : inR l2 2 <;> (rw [c298, b298_0]; simp (disch := omega) only [gq_true, gb_true, gb_false, true_and, and_true, eq_self, not_false_eq_true, not_true_eq_false, true_or, or_true, false_or, or_false, false_and, and_false, c0_v, ci_v, cl_v, cf_v, pk_mul, nI_add, nI_clamp, nI_lt0, nI_0le, nI_eq0, nI_lt0r, nI_ltE, nI_leE, nI_eqE, nI_m1, in_t, ba0, ba1, Nat.one_ne_zero, Nat.reduceEqDiff, Nat.reduceLeDiff, Nat.add_eq_zero_iff, rk243 hR, rr15 hR, rk245 hR, rr19 hR, rk249 hR, rs hR, rq hR, y222, y223_0, y223_1, y225_0 hR, y225_1 hR, y226_00 hR, y226_01 hR, y226_10 hR, y226_11 hR, y285 hR hC, y286 hR hC, y287 hR hC, y288 hR hC, tr_t, tr_f, yinN, yin _ (3 : Int64) 4 (by decide), yin _ (4 : Int64) 5 (by decide), yin _ (2 : Int64) 3 (by decide), yin _ (5 : Int64) 6 (by decide), yin _ (6 : Int64) 7 (by decide), yin _ (1 : Int64) 2 (by decide), yin _ (9999 : Int64) 10000 (by decide), cond_true, cond_false, hb, b298_32, hd])
  | true =>
    obtain ⟨k0, hk0, rfl⟩ := (inR_t (by omega)).mp hb
    rw [nI_clamp (by omega)]
    obtain ⟨e8, b8⟩ := (ww_no hW k0 hk0).c (by decide)
    cases hc : inR l1 (cN s (59 + 48 * k0)) with
    | false =>
      cases hd : inR l2 2 <;> (rw [c298, b298_0]; simp (disch := omega) only [gq_true, gb_true, gb_false, true_and, and_true, eq_self, not_false_eq_true, not_true_eq_false, true_or, or_true, false_or, or_false, false_and, and_false, c0_v, ci_v, cl_v, cf_v, pk_mul, nI_add, nI_clamp, nI_lt0, nI_0le, nI_eq0, nI_lt0r, nI_ltE, nI_leE, nI_eqE, nI_m1, in_t, ba0, ba1, Nat.one_ne_zero, Nat.reduceEqDiff, Nat.reduceLeDiff, Nat.add_eq_zero_iff, rk243 hR, rr15 hR, rk245 hR, rr19 hR, rk249 hR, rs hR, rq hR, y222, y223_0, y223_1, y225_0 hR, y225_1 hR, y226_00 hR, y226_01 hR, y226_10 hR, y226_11 hR, y285 hR hC, y286 hR hC, y287 hR hC, y288 hR hC, tr_t, tr_f, yinN, yin _ (3 : Int64) 4 (by decide), yin _ (4 : Int64) 5 (by decide), yin _ (2 : Int64) 3 (by decide), yin _ (5 : Int64) 6 (by decide), yin _ (6 : Int64) 7 (by decide), yin _ (1 : Int64) 2 (by decide), yin _ (9999 : Int64) 10000 (by decide), cond_true, cond_false, hb, b298_32, hd, y256 hR k0 41 (59 + 48 * k0) (by omega) (by omega), e8, hc])
    | true =>
      obtain ⟨k1, hk1, rfl⟩ := (inR_t (by omega)).mp hc
      cases hd : inR l2 2 with
      | false =>
        rw [c298, b298_0]
        simp (disch := omega) only [gq_true, gb_true, gb_false, true_and, and_true, eq_self, not_false_eq_true, not_true_eq_false, true_or, or_true, false_or, or_false, false_and, and_false, c0_v, ci_v, cl_v, cf_v, pk_mul, nI_add, nI_clamp, nI_lt0, nI_0le, nI_eq0, nI_lt0r, nI_ltE, nI_leE, nI_eqE, nI_m1, in_t, ba0, ba1, Nat.one_ne_zero, Nat.reduceEqDiff, Nat.reduceLeDiff, Nat.add_eq_zero_iff, rk243 hR, rr15 hR, rk245 hR, rr19 hR, rk249 hR, rs hR, rq hR, y222, y223_0, y223_1, y225_0 hR, y225_1 hR, y226_00 hR, y226_01 hR, y226_10 hR, y226_11 hR, y285 hR hC, y286 hR hC, y287 hR hC, y288 hR hC, tr_t, tr_f, yinN, yin _ (3 : Int64) 4 (by decide), yin _ (4 : Int64) 5 (by decide), yin _ (2 : Int64) 3 (by decide), yin _ (5 : Int64) 6 (by decide), yin _ (6 : Int64) 7 (by decide), yin _ (1 : Int64) 2 (by decide), yin _ (9999 : Int64) 10000 (by decide), cond_true, cond_false, hb, b298_32, hd, y256 hR k0 41 (59 + 48 * k0) (by omega) (by omega), e8, hc]
      | true =>
        obtain ⟨k2, hk2, rfl⟩ := (inR_t (by omega)).mp hd
        rw [c298, b298_0]
        rcases (show k2 = 0 ∨ k2 = 1 by omega) with rfl | rfl
        · simp (disch := omega) only [gq_true, gb_true, gb_false, true_and, and_true, eq_self, not_false_eq_true, not_true_eq_false, true_or, or_true, false_or, or_false, false_and, and_false, c0_v, ci_v, cl_v, cf_v, pk_mul, nI_add, nI_clamp, nI_lt0, nI_0le, nI_eq0, nI_lt0r, nI_ltE, nI_leE, nI_eqE, nI_m1, in_t, ba0, ba1, Nat.one_ne_zero, Nat.reduceEqDiff, Nat.reduceLeDiff, Nat.add_eq_zero_iff, rk243 hR, rr15 hR, rk245 hR, rr19 hR, rk249 hR, rs hR, rq hR, y222, y223_0, y223_1, y225_0 hR, y225_1 hR, y226_00 hR, y226_01 hR, y226_10 hR, y226_11 hR, y285 hR hC, y286 hR hC, y287 hR hC, y288 hR hC, tr_t, tr_f, yinN, yin _ (3 : Int64) 4 (by decide), yin _ (4 : Int64) 5 (by decide), yin _ (2 : Int64) 3 (by decide), yin _ (5 : Int64) 6 (by decide), yin _ (6 : Int64) 7 (by decide), yin _ (1 : Int64) 2 (by decide), yin _ (9999 : Int64) 10000 (by decide), cond_true, cond_false, hb, b298_32, hd, y256 hR k0 41 (59 + 48 * k0) (by omega) (by omega), e8, hc, rk243 hR3, rr15 hR3, rk245 hR3, rr19 hR3, rk249 hR3, rs hR3, rq hR3, y256 hR3 k0 (42 + k1) (60 + 48 * k0 + k1) (by omega) (by omega), if_true]
        · simp (disch := omega) only [gq_true, gb_true, gb_false, true_and, and_true, eq_self, not_false_eq_true, not_true_eq_false, true_or, or_true, false_or, or_false, false_and, and_false, c0_v, ci_v, cl_v, cf_v, pk_mul, nI_add, nI_clamp, nI_lt0, nI_0le, nI_eq0, nI_lt0r, nI_ltE, nI_leE, nI_eqE, nI_m1, in_t, ba0, ba1, Nat.one_ne_zero, Nat.reduceEqDiff, Nat.reduceLeDiff, Nat.add_eq_zero_iff, rk243 hR, rr15 hR, rk245 hR, rr19 hR, rk249 hR, rs hR, rq hR, y222, y223_0, y223_1, y225_0 hR, y225_1 hR, y226_00 hR, y226_01 hR, y226_10 hR, y226_11 hR, y285 hR hC, y286 hR hC, y287 hR hC, y288 hR hC, tr_t, tr_f, yinN, yin _ (3 : Int64) 4 (by decide), yin _ (4 : Int64) 5 (by decide), yin _ (2 : Int64) 3 (by decide), yin _ (5 : Int64) 6 (by decide), yin _ (6 : Int64) 7 (by decide), yin _ (1 : Int64) 2 (by decide), yin _ (9999 : Int64) 10000 (by decide), cond_true, cond_false, hb, b298_32, hd, y256 hR k0 41 (59 + 48 * k0) (by omega) (by omega), e8, hc, rk243 hR3, rr15 hR3, rk245 hR3, rr19 hR3, rk249 hR3, rs hR3, rq hR3, y256 hR3 k0 (45 + k1) (63 + 48 * k0 + k1) (by omega) (by omega), if_false]
theorem y302 (hR : RS m N s q) (hF : WF B s q) (hB : B < 2 ^ 30) (l0 l1 : Int32) : am_ca sa sv (d + 4) 302 [.ref (N + 243), .int l0, .int l1] m = (bif inR l0 (cN s 2) then (bif inR l1 7 then some (.inl (some (.int (if l1 = nI 6 then tr_ (isf_ s l0.toNatClampNeg (cN s 4)) else s (594 + 6 * l0.toNatClampNeg + l1.toNatClampNeg)))), si_ m (N + 243) 0 (nI (0))) else some (.inl (some (.int (nI 0))), si_ m (N + 243) 0 (nI (2)))) else some (.inl (some (.int (nI 0))), si_ m (N + 243) 0 (nI (1)))) := by
  have hC := wf_c hF
  have hW := wf_w hF
  have hA := wf_a hF
  have hD := wf_d hF
  have hK := wf_k hF
  have hR3 := hR.c 0 (nI 0)
  obtain ⟨e0, b0⟩ := (wc_np hC).c (by decide)
  obtain ⟨e1, b1⟩ := (wc_nw hC).c (by decide)
  obtain ⟨e2, b2⟩ := (wc_na hC).c (by decide)
  obtain ⟨e3, b3⟩ := (wc_nd hC).c (by decide)
  obtain ⟨e4, b4⟩ := (wc_day hC).c (by decide)
  obtain ⟨e5, b5⟩ := (wk_c hK).c (by omega)
  obtain ⟨e6, b6⟩ := (wc_nl hC).c (by decide)
  have e7' : cN s 7 = min (cN s 5) 5 := cN_ (wk_k hK) (by omega)
  have e7 : s 7 = nI (cN s 7) := by rw [e7']; exact wk_k hK
  have b7 : cN s 7 < 6 := by omega
  cases hb : inR l0 (cN s 2) with
  | false =>
    cases hc : inR l1 7 <;> (rw [c302, b302_0]; simp (disch := omega) only [gq_true, gb_true, gb_false, true_and, and_true, eq_self, not_false_eq_true, not_true_eq_false, true_or, or_true, false_or, or_false, false_and, and_false, c0_v, ci_v, cl_v, cf_v, pk_mul, nI_add, nI_clamp, nI_lt0, nI_0le, nI_eq0, nI_lt0r, nI_ltE, nI_leE, nI_eqE, nI_m1, in_t, ba0, ba1, Nat.one_ne_zero, Nat.reduceEqDiff, Nat.reduceLeDiff, Nat.add_eq_zero_iff, rk243 hR, rr15 hR, rk245 hR, rr19 hR, rk249 hR, rs hR, rq hR, y222, y223_0, y223_1, y225_0 hR, y225_1 hR, y226_00 hR, y226_01 hR, y226_10 hR, y226_11 hR, y285 hR hC, y286 hR hC, y287 hR hC, y288 hR hC, tr_t, tr_f, yinN, yin _ (3 : Int64) 4 (by decide), yin _ (4 : Int64) 5 (by decide), yin _ (2 : Int64) 3 (by decide), yin _ (5 : Int64) 6 (by decide), yin _ (6 : Int64) 7 (by decide), yin _ (1 : Int64) 2 (by decide), yin _ (9999 : Int64) 10000 (by decide), cond_true, cond_false, hb, hc])
  | true =>
    obtain ⟨k0, hk0, rfl⟩ := (inR_t (by omega)).mp hb
    rw [nI_clamp (by omega)]
    cases hc : inR l1 7 with
    | false =>
      rw [c302, b302_0]
      simp (disch := omega) only [gq_true, gb_true, gb_false, true_and, and_true, eq_self, not_false_eq_true, not_true_eq_false, true_or, or_true, false_or, or_false, false_and, and_false, c0_v, ci_v, cl_v, cf_v, pk_mul, nI_add, nI_clamp, nI_lt0, nI_0le, nI_eq0, nI_lt0r, nI_ltE, nI_leE, nI_eqE, nI_m1, in_t, ba0, ba1, Nat.one_ne_zero, Nat.reduceEqDiff, Nat.reduceLeDiff, Nat.add_eq_zero_iff, rk243 hR, rr15 hR, rk245 hR, rr19 hR, rk249 hR, rs hR, rq hR, y222, y223_0, y223_1, y225_0 hR, y225_1 hR, y226_00 hR, y226_01 hR, y226_10 hR, y226_11 hR, y285 hR hC, y286 hR hC, y287 hR hC, y288 hR hC, tr_t, tr_f, yinN, yin _ (3 : Int64) 4 (by decide), yin _ (4 : Int64) 5 (by decide), yin _ (2 : Int64) 3 (by decide), yin _ (5 : Int64) 6 (by decide), yin _ (6 : Int64) 7 (by decide), yin _ (1 : Int64) 2 (by decide), yin _ (9999 : Int64) 10000 (by decide), cond_true, cond_false, hb, hc]
    | true =>
      obtain ⟨k1, hk1, rfl⟩ := (inR_t (by omega)).mp hc
      rw [c302, b302_0]
      simp (disch := omega) only [gq_true, gb_true, gb_false, true_and, and_true, eq_self, not_false_eq_true, not_true_eq_false, true_or, or_true, false_or, or_false, false_and, and_false, c0_v, ci_v, cl_v, cf_v, pk_mul, nI_add, nI_clamp, nI_lt0, nI_0le, nI_eq0, nI_lt0r, nI_ltE, nI_leE, nI_eqE, nI_m1, in_t, ba0, ba1, Nat.one_ne_zero, Nat.reduceEqDiff, Nat.reduceLeDiff, Nat.add_eq_zero_iff, rk243 hR, rr15 hR, rk245 hR, rr19 hR, rk249 hR, rs hR, rq hR, y222, y223_0, y223_1, y225_0 hR, y225_1 hR, y226_00 hR, y226_01 hR, y226_10 hR, y226_11 hR, y285 hR hC, y286 hR hC, y287 hR hC, y288 hR hC, tr_t, tr_f, yinN, yin _ (3 : Int64) 4 (by decide), yin _ (4 : Int64) 5 (by decide), yin _ (2 : Int64) 3 (by decide), yin _ (5 : Int64) 6 (by decide), yin _ (6 : Int64) 7 (by decide), yin _ (1 : Int64) 2 (by decide), yin _ (9999 : Int64) 10000 (by decide), cond_true, cond_false, hb, hc, rk243 hR3, rr15 hR3, rk245 hR3, rr19 hR3, rk249 hR3, rs hR3, rq hR3, e4, y277 hR3 hC hA k0 (cN s 4) hk0 (by omega), y223, y257 hR3 k0 k1 (by omega)]
      by_cases h6 : k1 = 6
      · rw [gb_pos h6, if_pos h6]
      · rw [gb_neg h6, if_neg h6]
theorem y296 (hR : RS m N s q) (hF : WF B s q) (hB : B < 2 ^ 30) (l0 : Int32) : am_ca sa sv (d + 4) 296 [.ref (N + 243), .int l0] m = (bif inR l0 (cN s 1) then some (.inl (some (.int (nI (orF_ (fun j => cN s (27 + 48 * l0.toNatClampNeg + 4 * spl_ s l0.toNatClampNeg (cN s 4) + j)) (cN s (23 + 48 * l0.toNatClampNeg + spl_ s l0.toNatClampNeg (cN s 4))))))), si_ m (N + 243) 0 (nI (0))) else some (.inl (some (.int (nI 0))), si_ m (N + 243) 0 (nI (1)))) := by
  have hC := wf_c hF
  have hW := wf_w hF
  have hA := wf_a hF
  have hD := wf_d hF
  have hK := wf_k hF
  have hR3 := hR.c 0 (nI 0)
  obtain ⟨e0, b0⟩ := (wc_np hC).c (by decide)
  obtain ⟨e1, b1⟩ := (wc_nw hC).c (by decide)
  obtain ⟨e2, b2⟩ := (wc_na hC).c (by decide)
  obtain ⟨e3, b3⟩ := (wc_nd hC).c (by decide)
  obtain ⟨e4, b4⟩ := (wc_day hC).c (by decide)
  obtain ⟨e5, b5⟩ := (wk_c hK).c (by omega)
  obtain ⟨e6, b6⟩ := (wc_nl hC).c (by decide)
  have e7' : cN s 7 = min (cN s 5) 5 := cN_ (wk_k hK) (by omega)
  have e7 : s 7 = nI (cN s 7) := by rw [e7']; exact wk_k hK
  have b7 : cN s 7 < 6 := by omega
  cases hb : inR l0 (cN s 1) with
  | false =>
    rw [c296, b296_0]
    simp (disch := omega) only [gq_true, gb_true, gb_false, true_and, and_true, eq_self, not_false_eq_true, not_true_eq_false, true_or, or_true, false_or, or_false, false_and, and_false, c0_v, ci_v, cl_v, cf_v, pk_mul, nI_add, nI_clamp, nI_lt0, nI_0le, nI_eq0, nI_lt0r, nI_ltE, nI_leE, nI_eqE, nI_m1, in_t, ba0, ba1, Nat.one_ne_zero, Nat.reduceEqDiff, Nat.reduceLeDiff, Nat.add_eq_zero_iff, rk243 hR, rr15 hR, rk245 hR, rr19 hR, rk249 hR, rs hR, rq hR, y222, y223_0, y223_1, y225_0 hR, y225_1 hR, y226_00 hR, y226_01 hR, y226_10 hR, y226_11 hR, y285 hR hC, y286 hR hC, y287 hR hC, y288 hR hC, tr_t, tr_f, yinN, yin _ (3 : Int64) 4 (by decide), yin _ (4 : Int64) 5 (by decide), yin _ (2 : Int64) 3 (by decide), yin _ (5 : Int64) 6 (by decide), yin _ (6 : Int64) 7 (by decide), yin _ (1 : Int64) 2 (by decide), yin _ (9999 : Int64) 10000 (by decide), cond_true, cond_false, hb]
  | true =>
    obtain ⟨k0, hk0, rfl⟩ := (inR_t (by omega)).mp hb
    rw [nI_clamp (by omega)]
    have hk := spl_lt hW k0 (cN s 4) hk0
    have H := lp_up (fun i => r296 sa sv (d + 3) 18 [some (.ref (N + 243)), some (.int (nI k0)), some (.int (nI (msk_ (fun p => !decide (shr_ s k0 (spl_ s k0 (cN s 4)) p ≤ 0)) i))), some (.int (nI i))] [] (si_ m (N + 243) 0 (nI 0))) (cN s 0) (fun i hi => by
      show r296 sa sv (d + 3) 18 _ [] _ = _
      rw [b296_18]
      simp (disch := omega) only [gq_true, gb_true, gb_false, true_and, and_true, eq_self, not_false_eq_true, not_true_eq_false, true_or, or_true, false_or, or_false, false_and, and_false, c0_v, ci_v, cl_v, cf_v, pk_mul, nI_add, nI_clamp, nI_lt0, nI_0le, nI_eq0, nI_lt0r, nI_ltE, nI_leE, nI_eqE, nI_m1, in_t, ba0, ba1, Nat.one_ne_zero, Nat.reduceEqDiff, Nat.reduceLeDiff, Nat.add_eq_zero_iff, rk243 hR3, rr15 hR3, rk245 hR3, rr19 hR3, rk249 hR3, rs hR3, rq hR3]
      rw [e0, e4]
      simp (disch := omega) only [gq_true, gb_true, gb_false, true_and, and_true, eq_self, not_false_eq_true, not_true_eq_false, true_or, or_true, false_or, or_false, false_and, and_false, c0_v, ci_v, cl_v, cf_v, pk_mul, nI_add, nI_clamp, nI_lt0, nI_0le, nI_eq0, nI_lt0r, nI_ltE, nI_leE, nI_eqE, nI_m1, in_t, ba0, ba1, Nat.one_ne_zero, Nat.reduceEqDiff, Nat.reduceLeDiff, Nat.add_eq_zero_iff, rk243 hR3, rr15 hR3, rk245 hR3, rr19 hR3, rk249 hR3, rs hR3, rq hR3, y292 hR3 hC hW k0 (cN s 4) hk0 (by omega), y294 hR3 hC hW k0 (spl_ s k0 (cN s 4)) i hk0 hk (by omega), y223_0, y223_1]
      rw [gb_neg (by omega), msk_]
      by_cases h : shr_ s k0 (spl_ s k0 (cN s 4)) i ≤ 0
      · rw [gb_pos h, decide_eq_true h, show nI 0 = nI (bif (!true) then 1 else 0) from rfl, nI_shm (by omega), nI_or]
      · rw [gb_neg h, decide_eq_false h, show nI 1 = nI (bif (!false) then 1 else 0) from rfl, nI_shm (by omega), nI_or])
    rw [c296, b296_0]
    simp (disch := omega) only [gq_true, gb_true, gb_false, true_and, and_true, eq_self, not_false_eq_true, not_true_eq_false, true_or, or_true, false_or, or_false, false_and, and_false, c0_v, ci_v, cl_v, cf_v, pk_mul, nI_add, nI_clamp, nI_lt0, nI_0le, nI_eq0, nI_lt0r, nI_ltE, nI_leE, nI_eqE, nI_m1, in_t, ba0, ba1, Nat.one_ne_zero, Nat.reduceEqDiff, Nat.reduceLeDiff, Nat.add_eq_zero_iff, rk243 hR, rr15 hR, rk245 hR, rr19 hR, rk249 hR, rs hR, rq hR, y222, y223_0, y223_1, y225_0 hR, y225_1 hR, y226_00 hR, y226_01 hR, y226_10 hR, y226_11 hR, y285 hR hC, y286 hR hC, y287 hR hC, y288 hR hC, tr_t, tr_f, yinN, yin _ (3 : Int64) 4 (by decide), yin _ (4 : Int64) 5 (by decide), yin _ (2 : Int64) 3 (by decide), yin _ (5 : Int64) 6 (by decide), yin _ (6 : Int64) 7 (by decide), yin _ (1 : Int64) 2 (by decide), yin _ (9999 : Int64) 10000 (by decide), cond_true, cond_false, hb]
    refine H.trans ?_
    show r296 sa sv (d + 3) 18 _ [] _ = _
    rw [b296_18]
    simp (disch := omega) only [gq_true, gb_true, gb_false, true_and, and_true, eq_self, not_false_eq_true, not_true_eq_false, true_or, or_true, false_or, or_false, false_and, and_false, c0_v, ci_v, cl_v, cf_v, pk_mul, nI_add, nI_clamp, nI_lt0, nI_0le, nI_eq0, nI_lt0r, nI_ltE, nI_leE, nI_eqE, nI_m1, in_t, ba0, ba1, Nat.one_ne_zero, Nat.reduceEqDiff, Nat.reduceLeDiff, Nat.add_eq_zero_iff, rk243 hR3, rr15 hR3, rk245 hR3, rr19 hR3, rk249 hR3, rs hR3, rq hR3]
    rw [e0]
    simp (disch := omega) only [gq_true, gb_true, gb_false, true_and, and_true, eq_self, not_false_eq_true, not_true_eq_false, true_or, or_true, false_or, or_false, false_and, and_false, c0_v, ci_v, cl_v, cf_v, pk_mul, nI_add, nI_clamp, nI_lt0, nI_0le, nI_eq0, nI_lt0r, nI_ltE, nI_leE, nI_eqE, nI_m1, in_t, ba0, ba1, Nat.one_ne_zero, Nat.reduceEqDiff, Nat.reduceLeDiff, Nat.add_eq_zero_iff, Nat.le_refl]
    rw [own_eq hC hW hk0 hk]
theorem y301 (hR : RS m N s q) (hF : WF B s q) (hB : B < 2 ^ 30) (l0 : Int32) : am_ca sa sv (d + 4) 301 [.ref (N + 243), .int l0] m = (bif inR l0 (cN s 1) then some (.inl (some (.int (nI (off_ s l0.toNatClampNeg (cN s 1))))), si_ m (N + 243) 0 (nI (0))) else some (.inl (some (.int (nI 0))), si_ m (N + 243) 0 (nI (1)))) := by
  have hC := wf_c hF
  have hW := wf_w hF
  have hA := wf_a hF
  have hD := wf_d hF
  have hK := wf_k hF
  have hR3 := hR.c 0 (nI 0)
  obtain ⟨e0, b0⟩ := (wc_np hC).c (by decide)
  obtain ⟨e1, b1⟩ := (wc_nw hC).c (by decide)
  obtain ⟨e2, b2⟩ := (wc_na hC).c (by decide)
  obtain ⟨e3, b3⟩ := (wc_nd hC).c (by decide)
  obtain ⟨e4, b4⟩ := (wc_day hC).c (by decide)
  obtain ⟨e5, b5⟩ := (wk_c hK).c (by omega)
  obtain ⟨e6, b6⟩ := (wc_nl hC).c (by decide)
  have e7' : cN s 7 = min (cN s 5) 5 := cN_ (wk_k hK) (by omega)
  have e7 : s 7 = nI (cN s 7) := by rw [e7']; exact wk_k hK
  have b7 : cN s 7 < 6 := by omega
  cases hb : inR l0 (cN s 1) with
  | false =>
    rw [c301, b301_0]
    simp (disch := omega) only [gq_true, gb_true, gb_false, true_and, and_true, eq_self, not_false_eq_true, not_true_eq_false, true_or, or_true, false_or, or_false, false_and, and_false, c0_v, ci_v, cl_v, cf_v, pk_mul, nI_add, nI_clamp, nI_lt0, nI_0le, nI_eq0, nI_lt0r, nI_ltE, nI_leE, nI_eqE, nI_m1, in_t, ba0, ba1, Nat.one_ne_zero, Nat.reduceEqDiff, Nat.reduceLeDiff, Nat.add_eq_zero_iff, rk243 hR, rr15 hR, rk245 hR, rr19 hR, rk249 hR, rs hR, rq hR, y222, y223_0, y223_1, y225_0 hR, y225_1 hR, y226_00 hR, y226_01 hR, y226_10 hR, y226_11 hR, y285 hR hC, y286 hR hC, y287 hR hC, y288 hR hC, tr_t, tr_f, yinN, yin _ (3 : Int64) 4 (by decide), yin _ (4 : Int64) 5 (by decide), yin _ (2 : Int64) 3 (by decide), yin _ (5 : Int64) 6 (by decide), yin _ (6 : Int64) 7 (by decide), yin _ (1 : Int64) 2 (by decide), yin _ (9999 : Int64) 10000 (by decide), cond_true, cond_false, hb]
  | true =>
    obtain ⟨k0, hk0, rfl⟩ := (inR_t (by omega)).mp hb
    rw [nI_clamp (by omega)]
    have H := lp_up (fun i => r301 sa sv (d + 3) 18 [some (.ref (N + 243)), some (.int (nI k0)), some (.int (nI (msk_ (fun v => (rts_ s v).testBit k0) i))), some (.int (nI i))] [] (si_ m (N + 243) 0 (nI 0))) (cN s 1) (fun i hi => by
      show r301 sa sv (d + 3) 18 _ [] _ = _
      have hr : rts_ s i < 2 ^ 12 := Nat.lt_of_lt_of_le (rts_lt hC hW hi) (Nat.pow_le_pow_right (by decide) (by omega))
      rw [b301_18]
      simp (disch := omega) only [gq_true, gb_true, gb_false, true_and, and_true, eq_self, not_false_eq_true, not_true_eq_false, true_or, or_true, false_or, or_false, false_and, and_false, c0_v, ci_v, cl_v, cf_v, pk_mul, nI_add, nI_clamp, nI_lt0, nI_0le, nI_eq0, nI_lt0r, nI_ltE, nI_leE, nI_eqE, nI_m1, in_t, ba0, ba1, Nat.one_ne_zero, Nat.reduceEqDiff, Nat.reduceLeDiff, Nat.add_eq_zero_iff, rk243 hR3, rr15 hR3, rk245 hR3, rr19 hR3, rk249 hR3, rs hR3, rq hR3]
      rw [e1]
      simp (disch := omega) only [gq_true, gb_true, gb_false, true_and, and_true, eq_self, not_false_eq_true, not_true_eq_false, true_or, or_true, false_or, or_false, false_and, and_false, c0_v, ci_v, cl_v, cf_v, pk_mul, nI_add, nI_clamp, nI_lt0, nI_0le, nI_eq0, nI_lt0r, nI_ltE, nI_leE, nI_eqE, nI_m1, in_t, ba0, ba1, Nat.one_ne_zero, Nat.reduceEqDiff, Nat.reduceLeDiff, Nat.add_eq_zero_iff, y299 hR3 hC hW i hi]
      rw [gb_neg (by omega), nI_tb (by omega) (by omega), nI_shm (by omega), nI_or, msk_])
    rw [c301, b301_0]
    simp (disch := omega) only [gq_true, gb_true, gb_false, true_and, and_true, eq_self, not_false_eq_true, not_true_eq_false, true_or, or_true, false_or, or_false, false_and, and_false, c0_v, ci_v, cl_v, cf_v, pk_mul, nI_add, nI_clamp, nI_lt0, nI_0le, nI_eq0, nI_lt0r, nI_ltE, nI_leE, nI_eqE, nI_m1, in_t, ba0, ba1, Nat.one_ne_zero, Nat.reduceEqDiff, Nat.reduceLeDiff, Nat.add_eq_zero_iff, rk243 hR, rr15 hR, rk245 hR, rr19 hR, rk249 hR, rs hR, rq hR, y222, y223_0, y223_1, y225_0 hR, y225_1 hR, y226_00 hR, y226_01 hR, y226_10 hR, y226_11 hR, y285 hR hC, y286 hR hC, y287 hR hC, y288 hR hC, tr_t, tr_f, yinN, yin _ (3 : Int64) 4 (by decide), yin _ (4 : Int64) 5 (by decide), yin _ (2 : Int64) 3 (by decide), yin _ (5 : Int64) 6 (by decide), yin _ (6 : Int64) 7 (by decide), yin _ (1 : Int64) 2 (by decide), yin _ (9999 : Int64) 10000 (by decide), cond_true, cond_false, hb]
    refine H.trans ?_
    show r301 sa sv (d + 3) 18 _ [] _ = _
    rw [b301_18]
    simp (disch := omega) only [gq_true, gb_true, gb_false, true_and, and_true, eq_self, not_false_eq_true, not_true_eq_false, true_or, or_true, false_or, or_false, false_and, and_false, c0_v, ci_v, cl_v, cf_v, pk_mul, nI_add, nI_clamp, nI_lt0, nI_0le, nI_eq0, nI_lt0r, nI_ltE, nI_leE, nI_eqE, nI_m1, in_t, ba0, ba1, Nat.one_ne_zero, Nat.reduceEqDiff, Nat.reduceLeDiff, Nat.add_eq_zero_iff, rk243 hR3, rr15 hR3, rk245 hR3, rr19 hR3, rk249 hR3, rs hR3, rq hR3]
    rw [e1]
    simp (disch := omega) only [gq_true, gb_true, gb_false, true_and, and_true, eq_self, not_false_eq_true, not_true_eq_false, true_or, or_true, false_or, or_false, false_and, and_false, c0_v, ci_v, cl_v, cf_v, pk_mul, nI_add, nI_clamp, nI_lt0, nI_0le, nI_eq0, nI_lt0r, nI_ltE, nI_leE, nI_eqE, nI_m1, in_t, ba0, ba1, Nat.one_ne_zero, Nat.reduceEqDiff, Nat.reduceLeDiff, Nat.add_eq_zero_iff, Nat.le_refl]
    rw [off_eq hC hW _ (Nat.le_refl _)]
end R51
