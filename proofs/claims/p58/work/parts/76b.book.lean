/-! the class books an income: book -/
section R76
variable {sa sv d N o B : Nat} {m : am_M} {s : Nat → Int32} {q : Nat → Int64}
theorem LF.cpy {m m' : am_M} {a b : Nat} {l : List Ln} {g : Nat → Nat} (h : LF m a l g) (hl : l.length ≤ 64) (hk : ∀ k, k < 256 → gi_ m' b k = gi_ m a k) : LF m' b l g := fun i x hx => by
  have := (List.getElem?_eq_some_iff.mp hx).1
  rw [hk _ (by omega), hk _ (by omega), hk _ (by omega), hk _ (by omega)]
  exact h i x hx
theorem x88 (hX : XS m N) (hO : OS m o) (hV : OV m o s q) (h1 : N + 27 ≤ o) (h2 : o + 27 ≤ N + 243) (hF : WF B s q) {l : List Ln} {f : Nat → Nat} (hl : l.length ≤ 64) (hb : lsm_ l ≤ 9999999) (hG : ∀ x ∈ l, GL s x) (hL : LF m (N + 22) l (wd_ s l)) (hr : gi_ m (N + 21) 2 = nI l.length) (hf : ∀ u, u < 12 → gi_ m (N + 18) u = nI (f u)) (hfb : ∀ u, f u ≤ 9999999) (hf0 : ∀ u, cN s 1 ≤ u → f u = 0) (hop : ∀ a, a < 12 → gi_ m (N + 19) a = nI ((wh_ s l l.length).1 a)) (hrt : ∀ p, p < 10 → gi_ m (N + 20) p = nI ((wh_ s l l.length).2 p)) : ∃ m', am_ca sa sv (d + 4) 88 [.ref o, .ref (N + 14)] m = some (.inl none, m') ∧ Fr (fun a _ => OA o a) m m' ∧ OS m' o ∧ OV m' o (bS_ s l) (bQ_ s l f q) := by
  have hC := wf_c hF
  have hD := wf_d hF
  obtain ⟨e0, b0⟩ := (wc_np hC).c (by decide)
  obtain ⟨e1, b1⟩ := (wc_nw hC).c (by decide)
  obtain ⟨e3, b3⟩ := (wc_nd hC).c (by decide)
  obtain ⟨mA, p1, p2, p3, p4, p5, p6⟩ : ∃ mA, r88 sa sv (d + 3) 2 [some (.ref o), some (.ref (N + 14)), some (.int (nI 0))] [] m = r88 sa sv (d + 3) 45 [some (.ref o), some (.ref (N + 14)), some (.int (nI 0))] [] mA ∧ Fr (fun a k => a = o + 24 ∨ a = o + 18 ∨ (a = o + 17 ∧ k = 2)) m mA ∧ (∀ k, k < 256 → gi_ mA (o + 18) k = gi_ m (N + 22) k) ∧ gi_ mA (o + 17) 2 = nI l.length ∧ (∀ w, w < 12 → gl_ mA (o + 24) w = gl_ m (o + 24) w + (nI (if w < cN s 1 then f w else 0)).toInt64) ∧ (∀ a, ¬ a = o + 24 → gl_ mA a = gl_ m a) := by
    obtain ⟨m1, g1, g2, g3⟩ := x88_2 (sa := sa) (sv := sv) (d := d + 1) hX hO h1 h2 (cN s 1) (by omega) ((ov_nw hV).trans e1) f hf (fun m1 => r88 sa sv (d + 3) 45 [some (.ref o), some (.ref (N + 14)), some (.int (nI 0))] [] (si_ (ri_ m1 (o + 18) (va_cpy (gi_ m1 (N + 22)) (gi_ m1 (o + 18)) 0 0 256)) (o + 17) 2 (gi_ (ri_ m1 (o + 18) (va_cpy (gi_ m1 (N + 22)) (gi_ m1 (o + 18)) 0 0 256)) (N + 21) 2))) (fun m1 f1 => by
      have hX1 := hX.frO f1 h1 h2 (fun a k z => by omega)
      have hO1 := hO.frd f1 (fun a k z => by omega)
      have e2 : gi_ m1 (o + 1) 1 = nI (cN s 1) := (f1.2.1 _ _ (by omega)).trans ((ov_nw hV).trans e1)
      have t := x131 (sa := sa) (sv := sv) (d := d + 2) (o + 17) (N + 21) (o + 18) (N + 22) 256 (ok17 hO1) (xk21 hX1) (or17_1 hO1) (xr21_1 hX1) (ok18 hO1) (xk22 hX1) (by decide) (by omega) (by omega) (by omega) (by omega)
      show r88 sa sv (d + 3) 2 _ [] m1 = _
      rw [b88_2]
      simp (disch := omega) only [gq_true, gb_true, gb_false, true_and, and_true, eq_self, not_false_eq_true, not_true_eq_false, true_or, or_true, false_or, or_false, false_and, and_false, c0_v, ci_v, cl_v, cf_v, pk_mul, nI_add, nI_clamp, nI_lt0, nI_0le, nI_eq0, nI_lt0r, nI_ltE, nI_leE, nI_eqE, nI_m1, in_t, ba0, ba1, Nat.one_ne_zero, Nat.reduceEqDiff, Nat.reduceLeDiff, Nat.add_eq_zero_iff, ok0 hO1, or0_1 hO1, ok1 hO1, e2, Nat.le_refl, or0_4 hO1, xk14 hX1, xr14_6 hX1, ok17 hO1]
      rw [t, c0_v])
    refine ⟨_, g1, Fr.si (P := fun a k => a = o + 24 ∨ a = o + 18 ∨ (a = o + 17 ∧ k = 2)) (a := o + 17) (k := 2) (Fr.ri (a := o + 18) (g2.mono fun a k z => Or.inl z) (fun k => Or.inr (Or.inl rfl))) (Or.inr (Or.inr ⟨rfl, rfl⟩)), fun k hk => ?_, ?_, fun w hw => g3 w hw, fun a ha => funext fun k => g2.2.2.1 a k ha⟩
    · rw [gi_si, if_neg (by omega), gi_ri, if_pos rfl]
      show (if 0 ≤ k ∧ k < 0 + 256 then gi_ m1 (N + 22) (0 + (k - 0)) else _) = _
      rw [if_pos (by omega), show 0 + (k - 0) = k by omega]
      exact g2.2.1 _ _ (by omega)
    · rw [gi_si, if_pos ⟨rfl, rfl⟩, gi_ri, if_neg (by omega)]
      exact (g2.2.1 _ _ (by omega)).trans hr
  have hXA := hX.frO p2 h1 h2 (fun a k z => by omega)
  have hOA := hO.frd p2 (fun a k z => by omega)
  obtain ⟨m3, r1, r2, r3, r4, r5, r6⟩ := x88_45 (sa := sa) (sv := sv) (d := d) hXA hOA h1 h2 hC hl hb hG (hL.cpy hl p3) p4
  have hX3 := hXA.frO r2 h1 h2 (fun a k z => by unfold BL at z; omega)
  have hO3 := hOA.frd r2 (fun a k z => by unfold BL at z; omega)
  have nA : ∀ a k, ¬ (a = o + 24 ∨ a = o + 18 ∨ a = o + 17) → gi_ mA a k = gi_ m a k := fun a k z => p2.2.1 _ _ (by omega)
  have n3 : ∀ a k, ¬ BL o a → gi_ m3 a k = gi_ mA a k := fun a k z => r2.2.1 _ _ z
  obtain ⟨m4, s1, s2, s3, s4, s5, s6⟩ := x88_107 (sa := sa) (sv := sv) (d := d) hX3 hO3 h1 h2 (cN s 0) (by omega) ((n3 _ _ (by unfold BL; omega)).trans ((nA _ _ (by omega)).trans ((ov_np hV).trans e0))) (wh_ s l l.length).2 (fun u hu => (n3 _ _ (by unfold BL; omega)).trans ((nA _ _ (by omega)).trans (hrt u hu)))
  have hX4 := hX3.frO s2 h1 h2 (fun a k z => by unfold BL at z; omega)
  have hO4 := hO3.frd s2 (fun a k z => by unfold BL at z; omega)
  have n4 : ∀ a k, ¬ BL o a → gi_ m4 a k = gi_ m3 a k := fun a k z => s2.2.1 _ _ z
  obtain ⟨m5, t1, t2, t3⟩ := x88_139 (sa := sa) (sv := sv) (d := d) hX4 hO4 h1 h2 (cN s 3) (by omega) ((n4 _ _ (by unfold BL; omega)).trans ((n3 _ _ (by unfold BL; omega)).trans ((nA _ _ (by omega)).trans ((ov_nd hV).trans e3))))
  have hO5 := hO4.frd t2 (fun a k z => by omega)
  have hFr : Fr (fun a _ => OA o a) m m5 := (((p2.mono fun a k z => by unfold OA; omega).trans (r2.mono fun a k z => by unfold OA; unfold BL at z; omega)).trans (s2.mono fun a k z => by unfold OA; unfold BL at z; omega)).trans (t2.mono fun a k z => by unfold OA; omega)
  have nI5 : ∀ a k, ¬ (BL o a ∨ a = o + 24 ∨ a = o + 18 ∨ a = o + 17 ∨ a = o + 16) → gi_ m5 a k = gi_ m a k := fun a k z => by
    rw [t2.2.1 _ _ (by omega), n4 _ _ (fun y => z (Or.inl y)), n3 _ _ (fun y => z (Or.inl y)), nA _ _ (by omega)]
  have nL5 : ∀ a k, ¬ (BL o a ∨ a = o + 24 ∨ a = o + 16) → gl_ m5 a k = gl_ m a k := fun a k z => by
    rw [t2.2.2.1 a k (by omega), s2.2.2.1 _ _ (fun y => z (Or.inl y)), r2.2.2.1 _ _ (fun y => z (Or.inl y)), p6 a (by omega)]
  have l5 : ∀ a, ¬ a = o + 16 → gl_ m5 a = gl_ m4 a := fun a z => funext fun k => t2.2.2.1 a k z
  have h10 : cN s 0 ≤ 2 ^ 31 := by omega
  have hwb := wh_le hD (l := l) hb
  have hbb := bN_b hD (l := l) (f := f) hb hfb
  obtain ⟨a1, a2, a3, a4, a5, a6, a7, a8, a9, v1, v2, v3, v4, v5, v6, v7, v8, v9, c1, c2, c3, c4, c5, c6, c7, c8, c9, w1⟩ := hV
  have hsl : ∀ k, ¬ k = 6 → (k < 690 ∨ (762 ≤ k ∧ k < 767) ∨ (k < 762 ∧ ¬ (k - 690) % 6 = 5)) → bS_ s l k = s k := fun k x y => bS_o l x y
  have hql : ∀ k, 212 ≤ k → bQ_ s l f q k = q k := fun k h => by unfold bQ_; rw [bN_o l f h, nL_0]
  have e7 : cN (bS_ s l) 7 = cN s 7 := cN_cg (hsl _ (by omega) (by omega))
  have e5 : cN (bS_ s l) 5 = cN s 5 := cN_cg (hsl _ (by omega) (by omega))
  have e6 : cN (bS_ s l) 6 = l.length := cN_ (show bS_ s l 6 = nI l.length from if_pos rfl) (by omega)
  refine ⟨m5, ?_, hFr, hO5, ?_⟩
  · rw [c88, b88_0]
    exact p1.trans (r1.trans (s1.trans t1))
  refine ⟨?_, ?_, ?_, fun k h => ?_, fun k h => ?_, fun k h => ?_, fun k h => ?_, fun k h => ?_, fun w i h1 h2 => ?_, fun w i h1 h2 => ?_, fun w k h1 h2 => ?_, fun w k h1 h2 => ?_, fun w k j h1 h2 h3 => ?_, fun w k j h1 h2 h3 => ?_, ?_, fun a c h1 h2 => ?_, ?_, fun a c h1 h2 => ?_, ?_, fun a c h1 h2 => ?_, ?_, fun p h1 => ?_, fun p c h1 h2 => ?_, fun p c h1 h2 => ?_, fun p w h1 h2 => ?_, fun w h1 => ?_, fun i p c h1 h2 h3 => ?_, fun i h1 => ?_⟩
  · rw [nI5 _ _ (by unfold BL; omega), hsl _ (by omega) (by omega)]; exact a1
  · rw [nI5 _ _ (by unfold BL; omega), hsl _ (by omega) (by omega)]; exact a2
  · rw [nI5 _ _ (by unfold BL; omega), hsl _ (by omega) (by omega)]; exact a3
  · rw [nL5 _ _ (by unfold BL; omega), hql _ (by omega)]; exact a4 k h
  · rw [nI5 _ _ (by unfold BL; omega), hsl _ (by omega) (by omega)]; exact a5 k h
  · rw [nL5 _ _ (by unfold BL; omega), hql _ (by omega)]; exact a6 k h
  · rw [nI5 _ _ (by unfold BL; omega), hsl _ (by omega) (by omega)]; exact a7 k h
  · rw [nI5 _ _ (by unfold BL; omega), hsl _ (by omega) (by omega)]; exact a8 k h
  · rw [nI5 _ _ (by unfold BL; omega), hsl _ (by omega) (by omega)]; exact a9 w i h1 h2
  · rw [nI5 _ _ (by unfold BL; omega), hsl _ (by omega) (by omega)]; exact v1 w i h1 h2
  · rw [nI5 _ _ (by unfold BL; omega), hsl _ (by omega) (by omega)]; exact v2 w k h1 h2
  · rw [nI5 _ _ (by unfold BL; omega), hsl _ (by omega) (by omega)]; exact v3 w k h1 h2
  · rw [nI5 _ _ (by unfold BL; omega), hsl _ (by omega) (by omega)]; exact v4 w k j h1 h2 h3
  · rw [nI5 _ _ (by unfold BL; omega), hsl _ (by omega) (by omega)]; exact v5 w k j h1 h2 h3
  · rw [nI5 _ _ (by unfold BL; omega), hsl _ (by omega) (by omega)]; exact v6
  · rw [nI5 _ _ (by unfold BL; omega), hsl _ (by omega) (by omega)]; exact v7 a c h1 h2
  · rw [nI5 _ _ (by unfold BL; omega), hsl _ (by omega) (by omega)]; exact v8
  · rw [t3 a c h1 h2]
    by_cases e : c = 5
    · rw [e, bS_d l h1]
      by_cases ha : a < cN s 3
      · rw [if_pos ⟨ha, rfl⟩, n4 _ _ (by unfold BL; omega), n3 _ _ (by unfold BL; omega), nA _ _ (by omega)]
        exact hop a h1
      · rw [if_neg (fun z => ha z.1), n4 _ _ (by unfold BL; omega), n3 _ _ (by unfold BL; omega), nA _ _ (by omega), v9 a 5 h1 (by omega)]
        have z := wd_z hD a (by omega) h1
        have z2 := wh_open s l a l.length
        have z3 : cN s (690 + 6 * a + 5) = 0 := cN_ (z.trans nI_0.symm) (by decide)
        rw [show (wh_ s l l.length).1 a = 0 by omega, z, nI_0]
    · rw [if_neg (fun z => e z.2), n4 _ _ (by unfold BL; omega), n3 _ _ (by unfold BL; omega), nA _ _ (by omega), hsl _ (by omega) (by omega)]
      exact v9 a c h1 h2
  · rw [t2.2.1 _ _ (by omega), n4 _ _ (by unfold BL; omega), n3 _ _ (by unfold BL; omega), p4]
    exact (if_pos rfl).symm
  · rw [e6] at h1
    have := (hL.cpy hl p3).v (a * 4 + c) (by omega)
    rw [t2.2.1 _ _ (by omega), n4 _ _ (by unfold BL; omega), n3 _ _ (by unfold BL; omega), this, show 767 + 4 * a + c = 767 + (a * 4 + c) by omega, bS_l l (by omega)]
  · rw [nI5 _ _ (by unfold BL; omega), hsl _ (by omega) (by omega)]; exact c3
  · have hw := hwb p
    have ho := og_b (s := s) hb p l.length (Nat.le_refl _)
    rw [l5 _ (by omega), s3 p, r3 p, p6 _ (by omega), c4 p h1]
    unfold bQ_
    rw [bN_b0 l f h1]
    by_cases hp : p < cN s 0
    · rw [if_pos hp, nL_acc _ (by omega)]
    · rw [if_neg hp, wh_hi hD l (by omega) h10, nL_0]; rfl
  · have hw := hwb p
    have ho := bA2_b (s := s) hb p c l.length (Nat.le_refl _)
    rw [l5 _ (by omega), s4 p c h2, r4 p c h2, p6 _ (by omega), c5 p c h1 h2]
    unfold bQ_
    rw [bN_t l f h1 h2, nL_acc _ (by split <;> omega)]
    congr 4
    by_cases e : c = 2
    · rw [if_pos e]
      by_cases hp : p < cN s 0
      · rw [if_pos ⟨hp, e⟩]
      · rw [if_neg (fun z => hp z.1), wh_hi hD l (by omega) h10]
    · rw [if_neg e, if_neg (fun z => e z.2)]
  · have hw := hwb p
    have ho := bA2_b (s := s) hb p c l.length (Nat.le_refl _)
    rw [l5 _ (by omega), s5 p c h2, r5 p c h2, p6 _ (by omega), c6 p c h1 h2]
    unfold bQ_
    rw [bN_p l f h1 h2, nL_acc _ (by split <;> omega)]
    congr 4
    by_cases e : c = 2
    · rw [if_pos e]
      by_cases hp : p < cN s 0
      · rw [if_pos ⟨hp, e⟩]
      · rw [if_neg (fun z => hp z.1), wh_hi hD l (by omega) h10]
    · rw [if_neg e, if_neg (fun z => e z.2)]
  · rw [l5 _ (by omega), s6, r6 p w h2, p6 _ (by omega), c7 p w h1 h2]
    unfold bQ_
    rw [bN_e l f h1 h2]
  · rw [l5 _ (by omega), s2.2.2.1 _ _ (by unfold BL; omega), r2.2.2.1 _ _ (by unfold BL; omega), p5 w h1, c8 w h1]
    unfold bQ_
    rw [bN_w l f h1]
    by_cases hw : w < cN s 1
    · rw [if_pos hw]
    · rw [if_neg hw, hf0 w (by omega)]
  · rw [e7] at h1
    have := (wf_k hF).b7
    rw [e5, nL5 _ _ (by unfold BL; omega), hql _ (by omega)]; exact c9 i p c h1 h2 h3
  · rw [e7] at h1
    have := (wf_k hF).b7
    rw [e5, nI5 _ _ (by unfold BL; omega), hsl _ (by omega) (by omega)]; exact w1 i h1
end R76
