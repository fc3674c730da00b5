/-! the class closes a period: the whole -/
section R79
variable {sa sv d o B : Nat} {m : am_M} {s : Nat → Int32} {q : Nat → Int64}
theorem st5_v (m : am_M) (o r p : Nat) (f : Nat → Int64) (r' p' w : Nat) (hp : p < 10) (hp' : p' < 10) (hw : w < 5) : gl_ (st5_ m o r p f) (o + 25) ((r' * 10 + p') * 5 + w) = if r' = r ∧ p' = p then f w else gl_ m (o + 25) ((r' * 10 + p') * 5 + w) := by
  unfold st5_
  simp only [gl_sl, true_and]
  by_cases e : r' = r ∧ p' = p
  · obtain ⟨rfl, rfl⟩ := e
    rw [if_pos (⟨rfl, rfl⟩ : r' = r' ∧ p' = p')]
    by_cases w4 : w = 4
    · subst w4; rw [if_pos rfl]
    · rw [if_neg (by omega)]
      by_cases w3 : w = 3
      · subst w3; rw [if_pos rfl]
      · rw [if_neg (by omega)]
        by_cases w2 : w = 2
        · subst w2; rw [if_pos rfl]
        · rw [if_neg (by omega)]
          by_cases w1 : w = 1
          · subst w1; rw [if_pos rfl]
          · rw [if_neg (by omega)]
            obtain rfl : w = 0 := by omega
            rw [if_pos rfl]
  · rw [if_neg (by omega), if_neg (by omega), if_neg (by omega), if_neg (by omega), if_neg (by omega), if_neg e]
theorem st5_o (m : am_M) (o r p : Nat) (f : Nat → Int64) (a : Nat) (ha : ¬ a = o + 25) (k : Nat) : gl_ (st5_ m o r p f) a k = gl_ m a k := by
  unfold st5_
  rw [gl_sl, if_neg (fun z => ha z.1), gl_sl, if_neg (fun z => ha z.1), gl_sl, if_neg (fun z => ha z.1), gl_sl, if_neg (fun z => ha z.1), gl_sl, if_neg (fun z => ha z.1)]
theorem x14r (hO : OS m o) (np i : Nat) (l : Int32) (hn : np ≤ 10) (hi : i < 10) (en : gi_ m (o + 1) 0 = nI np) (el : gi_ m (o + 3) i = l) : am_ca sa sv (d + 2) 14 [.ref (o + 1), .int (nI i)] m = some (.inl (some (.int (if i < np then l else nI 0))), m) := by
  have h3 : am_ca sa sv (d + 1) 3 [.ref (o + 1), .int (nI i)] m = some (.inl (some (.int (nI (if i < np then 1 else 0)))), m) := by
    rw [c3, b3_0]
    simp (disch := omega) only [gq_true, gb_true, gb_false, true_and, and_true, eq_self, not_false_eq_true, not_true_eq_false, true_or, or_true, false_or, or_false, false_and, and_false, c0_v, ci_v, cl_v, cf_v, pk_mul, nI_add, nI_clamp, nI_lt0, nI_0le, nI_eq0, nI_lt0r, nI_ltE, nI_leE, nI_eqE, nI_m1, in_t, ba0, ba1, Nat.one_ne_zero, Nat.reduceEqDiff, Nat.reduceLeDiff, Nat.add_eq_zero_iff, ok1 hO, en]
    (simp only [gb_ite]; (repeat' split); all_goals first | rfl | (exfalso; omega))
  rw [c14, b14_0, h3]
  by_cases h : i < np
  · rw [if_pos h, if_pos h]
    simp (disch := omega) only [gq_true, gb_true, gb_false, true_and, and_true, eq_self, not_false_eq_true, not_true_eq_false, true_or, or_true, false_or, or_false, false_and, and_false, c0_v, ci_v, cl_v, cf_v, pk_mul, nI_add, nI_clamp, nI_lt0, nI_0le, nI_eq0, nI_lt0r, nI_ltE, nI_leE, nI_eqE, nI_m1, in_t, ba0, ba1, Nat.one_ne_zero, Nat.reduceEqDiff, Nat.reduceLeDiff, Nat.add_eq_zero_iff, ok1 hO, ok3 hO, or1_3 hO, el]
  · rw [if_neg h, if_neg h]
    simp (disch := omega) only [gq_true, gb_true, gb_false, true_and, and_true, eq_self, not_false_eq_true, not_true_eq_false, true_or, or_true, false_or, or_false, false_and, and_false, c0_v, ci_v, cl_v, cf_v, pk_mul, nI_add, nI_clamp, nI_lt0, nI_0le, nI_eq0, nI_lt0r, nI_ltE, nI_leE, nI_eqE, nI_m1, in_t, ba0, ba1, Nat.one_ne_zero, Nat.reduceEqDiff, Nat.reduceLeDiff, Nat.add_eq_zero_iff, ok1 hO]
def BC (o a : Nat) : Prop := a = o + 20 ∨ a = o + 21 ∨ a = o + 25
theorem pd_cl (hZ : WZ s q) {p : Nat} (hp : p < 10) : pd_ s q p = if 0 < q p ∧ (if p < cN s 0 then s (8 + p) else nI 0).toInt64 ≤ q p then q p else 0 := by
  unfold pd_ paid_
  by_cases h : p < cN s 0
  · rw [if_pos h]
    by_cases e : 0 < q p ∧ (s (8 + p)).toInt64 ≤ q p
    · rw [if_pos e, if_pos ⟨h, decide_eq_true e⟩]
    · rw [if_neg e, if_neg (fun z => e (of_decide_eq_true z.2))]
  · rw [if_neg h, if_neg (fun z => h z.1), wz_b hZ p (by omega) hp, if_neg (fun z => absurd z.1 (by decide))]
def spd_ (s : Nat → Int32) (q : Nat → Int64) : Nat → Int64 := fl_ (fun p x => x + pd_ s q p) 0
theorem x87 (hO : OS m o) (hV : OV m o s q) (hF : WF B s q) (hB : B < 2 ^ 29) : ∃ m', am_ca sa sv (d + 4) 87 [.ref o] m = some (.inl (some (.long (spd_ s q 10))), m') ∧ Fr (fun a _ => OA o a) m m' ∧ OS m' o ∧ OV m' o (cS_ s) (cQ_ s q) := by
  have hC := wf_c hF
  have hZ := wf_z hF
  have hK := wf_k hF
  obtain ⟨e5, b5⟩ := (wk_c hK).c (by omega)
  have e7 := wk_k hK
  have c7 : cN s 7 = min (cN s 5) 5 := cN_ e7 (by omega)
  obtain ⟨a1, a2, a3, a4, a5, a6, a7, a8, a9, v1, v2, v3, v4, v5, v6, v7, v8, v9, c1, c2, c3, c4, c5, c6, c7', c8, c9, w1⟩ := id hV
  generalize hc : cN s 5 = c at *
  obtain ⟨m1, g1, g2, g3, g4, g5⟩ := lp_inv (fun i m1 => r87 sa sv (d + 3) 4 [some (.ref o), some (.long (spd_ s q i)), none, some (.int (nI i))] [] m1) (fun i m1 => Fr (fun a _ => BC o a) m m1 ∧ (∀ p, gl_ m1 (o + 20) p = if p < i then gl_ m (o + 20) p - pd_ s q p else gl_ m (o + 20) p) ∧ (∀ p w, w < 4 → gl_ m1 (o + 21) (p * 4 + w) = if p < i ∧ w = 3 then gl_ m (o + 21) (p * 4 + w) + pd_ s q p else gl_ m (o + 21) (p * 4 + w)) ∧ (∀ r p w, p < 10 → w < 5 → gl_ m1 (o + 25) ((r * 10 + p) * 5 + w) = if r = c % 5 ∧ p < i then nv_ s q p w else gl_ m (o + 25) ((r * 10 + p) * 5 + w))) 10 (fun i m1 hi ⟨f1, f2, f3, f4⟩ => by
    have hO1 := hO.frd f1 (fun a k z => by unfold BC at z; omega)
    have hc1 : gi_ m1 (o + 19) 7 = nI c := (f1.2.1 _ _ (by unfold BC; omega)).trans (c3.trans e5)
    have e14 := x14r (sa := sa) (sv := sv) (d := d + 1) hO1 (cN s 0) i (s (8 + i)) (by have := isN_lt (wc_np hC) (by decide); omega) hi (by
      obtain ⟨e0, b0⟩ := (wc_np hC).c (by decide)
      exact (f1.2.1 _ _ (by unfold BC; omega)).trans (a2.trans e0)) ((f1.2.1 _ _ (by unfold BC; omega)).trans (a5 i hi))
    have hb1 : gl_ m1 (o + 20) i = q i := by rw [f2 i, if_neg (by omega)]; exact c4 i hi
    have hs := x56 (sa := sa) (sv := sv) (d := d) hO1 c i (if i < cN s 0 then s (8 + i) else nI 0) (nv_ s q i) (q i) (pd_ s q i) hc1 (by omega) hi hb1 (fun w hw => by
      rw [f1.2.2.1 _ _ (by unfold BC; omega), c6 i w hi hw]
      unfold nv_; rw [if_pos hw]) rfl rfl (pd_cl hZ hi)
    refine ⟨st5_ (ad_ (ad_ m1 (o + 21) (i * 4 + 3) (pd_ s q i)) (o + 20) i (-pd_ s q i)) o (c % 5) i (nv_ s q i), ?_, ?_, fun p => ?_, fun p w hw => ?_, fun r p w hp hw => ?_⟩
    · show r87 sa sv (d + 3) 4 _ [] m1 = _
      rw [b87_4, gb_neg (by rw [nI_leE (by omega) (by omega)]; omega)]
      simp (disch := omega) only [gq_true, gb_true, gb_false, true_and, and_true, eq_self, not_false_eq_true, not_true_eq_false, true_or, or_true, false_or, or_false, false_and, and_false, c0_v, ci_v, cl_v, cf_v, pk_mul, nI_add, nI_clamp, nI_lt0, nI_0le, nI_eq0, nI_lt0r, nI_ltE, nI_leE, nI_eqE, nI_m1, in_t, ba0, ba1, Nat.one_ne_zero, Nat.reduceEqDiff, Nat.reduceLeDiff, Nat.add_eq_zero_iff, ok0 hO1, or0_5 hO1, or0_1 hO1, ok1 hO1, e14, ok19 hO1, hs]
      rfl
    · unfold st5_ BC
      unfold BC at f1
      exact ((((((f1.ad (by omega)).ad (by omega)).sl (by omega)).sl (by omega)).sl (by omega)).sl (by omega)).sl (by omega)
    · rw [st5_o _ _ _ _ _ _ (by omega)]
      simp (disch := omega) only [gl_ad, eq_self, true_and, if_neg]
      rw [f2 p]
      by_cases e : p = i
      · subst e
        rw [if_pos rfl, if_neg (by omega), if_pos (by omega), Int64.sub_eq_add_neg]
      · rw [if_neg e]
        by_cases e2 : p < i
        · rw [if_pos e2, if_pos (by omega)]
        · rw [if_neg e2, if_neg (by omega)]
    · rw [st5_o _ _ _ _ _ _ (by omega)]
      simp (disch := omega) only [gl_ad, eq_self, true_and, if_neg]
      rw [f3 p w hw]
      by_cases e : p = i ∧ w = 3
      · obtain ⟨rfl, rfl⟩ := e
        rw [if_pos rfl, if_neg (by omega), if_pos (by omega)]
      · rw [if_neg (show ¬ p * 4 + w = i * 4 + 3 by omega)]
        by_cases e2 : p < i ∧ w = 3
        · rw [if_pos e2, if_pos (by omega)]
        · rw [if_neg e2, if_neg (by omega)]
    · rw [st5_v _ _ _ _ _ _ _ _ hi hp hw]
      simp (disch := omega) only [gl_ad, eq_self, true_and, if_neg]
      rw [f4 r p w hp hw]
      by_cases e : r = c % 5 ∧ p = i
      · rw [if_pos e, if_pos (show r = c % 5 ∧ p < i + 1 by omega), e.2]
      · rw [if_neg e]
        by_cases e2 : r = c % 5 ∧ p < i
        · rw [if_pos e2, if_pos (by omega)]
        · rw [if_neg e2, if_neg (by omega)]) m ⟨Fr.refl _ _, fun p => by rw [if_neg (by omega)], fun p w _ => by rw [if_neg (by omega)], fun r p w _ _ => by rw [if_neg (by omega)]⟩
  have hO1 := hO.frd g2 (fun a k z => by unfold BC at z; omega)
  have hc1 : gi_ m1 (o + 19) 7 = nI c := (g2.2.1 _ _ (by unfold BC; omega)).trans (c3.trans e5)
  obtain ⟨m2, k1, k2, k3, k4, k5, k6⟩ := x58 (sa := sa) (sv := sv) (d := d + 1) hO1 c (s 4) hc1 (by omega)
  have hO2 := hO1.frd k2 (fun a k z => by omega)
  have ed : gi_ m1 o 0 = s 4 := (g2.2.1 _ _ (by unfold BC; omega)).trans a1
  have nI2 : ∀ a k, ¬ (BC o a ∨ a = o + 26 ∨ a = o + 22 ∨ (a = o + 19 ∧ k = 7)) → gi_ m2 a k = gi_ m a k := fun a k z => by
    rw [k2.2.1 _ _ (by omega), g2.2.1 _ _ (fun y => z (Or.inl y))]
  have nL2 : ∀ a k, ¬ (a = o + 22 ∨ a = o + 19 ∨ a = o + 26) → gl_ m2 a k = gl_ m1 a k := fun a k z => k2.2.2.1 _ _ (by omega)
  have nL1 : ∀ a k, ¬ BC o a → gl_ m1 a k = gl_ m a k := fun a k z => g2.2.2.1 _ _ z
  have hsl : ∀ k, ¬ (k = 5 ∨ k = 7 ∨ (762 ≤ k ∧ k < 767)) → cS_ s k = s k := fun k h => by
    unfold cS_
    rw [if_neg (by omega), if_neg (by omega), if_neg (by omega), if_neg (by omega)]
  have hql : ∀ k, (80 ≤ k ∧ k < 212) ∨ 462 ≤ k → cQ_ s q k = q k := fun k h => by
    unfold cQ_
    rcases h with h | h
    · rw [if_neg (by omega), if_neg (by omega), if_neg (by omega), if_pos (by omega)]
    · rw [if_neg (by omega), if_neg (by omega), if_neg (by omega), if_neg (by omega), if_neg (by omega), if_neg (by omega)]
  have e5' : cN (cS_ s) 5 = c + 1 := cN_ (show cS_ s 5 = nI (c + 1) by unfold cS_; rw [if_pos rfl, hc]) (by omega)
  have e7' : cN (cS_ s) 7 = min (c + 1) 5 := cN_ (show cS_ s 7 = nI (min (c + 1) 5) by unfold cS_; rw [if_neg (by omega), if_pos rfl, hc]) (by omega)
  have e6' : cN (cS_ s) 6 = cN s 6 := cN_cg (hsl _ (by omega))
  have hnl := isN_lt (wc_nl hC) (by decide)
  refine ⟨m2, ?_, (g2.mono fun a k z => by unfold BC at z; unfold OA; omega).trans (k2.mono fun a k z => by unfold OA; omega), hO2, ?_⟩
  · rw [c87, b87_0]
    refine g1.trans ?_
    show r87 sa sv (d + 3) 4 _ [] m1 = _
    rw [b87_4, gb_pos (by rw [nI_leE (by omega) (by omega)]; omega)]
    simp (disch := omega) only [gq_true, gb_true, gb_false, true_and, and_true, eq_self, not_false_eq_true, not_true_eq_false, true_or, or_true, false_or, or_false, false_and, and_false, c0_v, ci_v, cl_v, cf_v, pk_mul, nI_add, nI_clamp, nI_lt0, nI_0le, nI_eq0, nI_lt0r, nI_ltE, nI_leE, nI_eqE, nI_m1, in_t, ba0, ba1, Nat.one_ne_zero, Nat.reduceEqDiff, Nat.reduceLeDiff, Nat.add_eq_zero_iff, ok0 hO1, or0_5 hO1, ok19 hO1, ed]
    rw [k1, c0_v]
  refine ⟨?_, ?_, ?_, fun k h => ?_, fun k h => ?_, fun k h => ?_, fun k h => ?_, fun k h => ?_, fun w i h1 h2 => ?_, fun w i h1 h2 => ?_, fun w k h1 h2 => ?_, fun w k h1 h2 => ?_, fun w k j h1 h2 h3 => ?_, fun w k j h1 h2 h3 => ?_, ?_, fun a c h1 h2 => ?_, ?_, fun a c h1 h2 => ?_, ?_, fun a c h1 h2 => ?_, ?_, fun p h1 => ?_, fun p c h1 h2 => ?_, fun p c h1 h2 => ?_, fun p w h1 h2 => ?_, fun w h1 => ?_, fun i p w h1 h2 h3 => ?_, fun i h1 => ?_⟩
  · rw [nI2 _ _ (by unfold BC; omega), hsl _ (by omega)]; exact a1
  · rw [nI2 _ _ (by unfold BC; omega), hsl _ (by omega)]; exact a2
  · rw [nI2 _ _ (by unfold BC; omega), hsl _ (by omega)]; exact a3
  · rw [nL2 _ _ (by omega), nL1 _ _ (by unfold BC; omega), hql _ (by omega)]; exact a4 k h
  · rw [nI2 _ _ (by unfold BC; omega), hsl _ (by omega)]; exact a5 k h
  · rw [nL2 _ _ (by omega), nL1 _ _ (by unfold BC; omega), hql _ (by omega)]; exact a6 k h
  · rw [nI2 _ _ (by unfold BC; omega), hsl _ (by omega)]; exact a7 k h
  · rw [nI2 _ _ (by unfold BC; omega), hsl _ (by omega)]; exact a8 k h
  · rw [nI2 _ _ (by unfold BC; omega), hsl _ (by omega)]; exact a9 w i h1 h2
  · rw [nI2 _ _ (by unfold BC; omega), hsl _ (by omega)]; exact v1 w i h1 h2
  · rw [nI2 _ _ (by unfold BC; omega), hsl _ (by omega)]; exact v2 w k h1 h2
  · rw [nI2 _ _ (by unfold BC; omega), hsl _ (by omega)]; exact v3 w k h1 h2
  · rw [nI2 _ _ (by unfold BC; omega), hsl _ (by omega)]; exact v4 w k j h1 h2 h3
  · rw [nI2 _ _ (by unfold BC; omega), hsl _ (by omega)]; exact v5 w k j h1 h2 h3
  · rw [nI2 _ _ (by unfold BC; omega), hsl _ (by omega)]; exact v6
  · rw [nI2 _ _ (by unfold BC; omega), hsl _ (by omega)]; exact v7 a c h1 h2
  · rw [nI2 _ _ (by unfold BC; omega), hsl _ (by omega)]; exact v8
  · rw [nI2 _ _ (by unfold BC; omega), hsl _ (by omega)]; exact v9 a c h1 h2
  · rw [nI2 _ _ (by unfold BC; omega), hsl _ (by omega)]; exact c1
  · rw [e6'] at h1
    rw [nI2 _ _ (by unfold BC; omega), hsl _ (by omega)]; exact c2 a c h1 h2
  · rw [k5]; unfold cS_; rw [if_pos rfl, hc]
  · rw [nL2 _ _ (by omega), g3 p, if_pos h1, c4 p h1]; unfold cQ_; rw [if_pos h1]
  · rw [nL2 _ _ (by omega), g4 p c h2, c5 p c h1 h2]
    unfold cQ_
    rw [if_neg (show ¬ 10 + 4 * p + c < 10 by omega), if_pos (show 10 + 4 * p + c < 50 by omega), show (10 + 4 * p + c - 10) % 4 = c by omega, show (10 + 4 * p + c - 10) / 4 = p by omega]
    by_cases e : c = 3
    · rw [if_pos ⟨h1, e⟩, if_pos e]
    · rw [if_neg (fun z => e z.2), if_neg e]
  · rw [k4 _ (by omega)]
    unfold cQ_
    rw [if_neg (by omega), if_neg (by omega), if_pos (by omega)]
  · rw [nL2 _ _ (by omega), nL1 _ _ (by unfold BC; omega), hql _ (by omega)]; exact c7' p w h1 h2
  · rw [nL2 _ _ (by omega), nL1 _ _ (by unfold BC; omega), hql _ (by omega)]; exact c8 w h1
  · rw [e7'] at h1
    have hq9 : cQ_ s q (212 + 50 * i + 5 * p + w) = if i = 0 then nv_ s q p w else q (212 + 50 * (i - 1) + 5 * p + w) := by
      unfold cQ_
      rw [if_neg (by omega), if_neg (by omega), if_neg (by omega), if_neg (by omega)]
      by_cases e : i = 0
      · rw [if_pos (by omega), if_pos e, show (212 + 50 * i + 5 * p + w - 212) / 5 = p by omega, show (212 + 50 * i + 5 * p + w - 212) % 5 = w by omega]
      · rw [if_neg (by omega), if_neg e, if_pos (by omega), show 212 + 50 * i + 5 * p + w - 50 = 212 + 50 * (i - 1) + 5 * p + w by omega]
    rw [e5', nL2 _ _ (by omega), g5 _ p w h2 h3, hq9]
    by_cases e : i = 0
    · rw [if_pos (show (c + 1 - 1 - i) % 5 = c % 5 ∧ p < 10 by omega), if_pos e]
    · rw [if_neg (show ¬ ((c + 1 - 1 - i) % 5 = c % 5 ∧ p < 10) by omega), if_neg e, ← c9 (i - 1) p w (by omega) h2 h3, show c + 1 - 1 - i = c - 1 - (i - 1) by omega]
  · rw [e7'] at h1
    have hs9 : cS_ s (762 + i) = if i = 0 then s 4 else s (762 + (i - 1)) := by
      unfold cS_
      rw [if_neg (by omega), if_neg (by omega)]
      by_cases e : i = 0
      · rw [if_pos (by omega), if_pos e]
      · rw [if_neg (by omega), if_neg e, if_pos (by omega), show 762 + i - 1 = 762 + (i - 1) by omega]
    rw [e5', k3, hs9]
    by_cases e : i = 0
    · rw [if_pos (show (c + 1 - 1 - i) % 5 = c % 5 by omega), if_pos e]
    · rw [if_neg (show ¬ (c + 1 - 1 - i) % 5 = c % 5 by omega), if_neg e, g2.2.1 _ _ (by unfold BC; omega), ← w1 (i - 1) (by omega), show c + 1 - 1 - i = c - 1 - (i - 1) by omega]
end R79
