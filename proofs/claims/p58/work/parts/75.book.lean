/-! the class books an income: its loops -/
theorem XS.frO {P : Nat → Nat → Prop} {m m' : am_M} {N o : Nat} (h : XS m N) (hf : Fr P m m') (h1 : N + 27 ≤ o) (h2 : o + 27 ≤ N + 243) (hp : ∀ a k, P a k → o ≤ a ∧ a < o + 27) : XS m' N := by
  refine h.fr hf (fun x hx z => ?_) (fun x hx z => ?_)
  · have h3 := of_decide_eq_true (List.all_eq_true.mp (by decide : xr_.all (fun x => decide (x.1 < 27 ∨ 243 ≤ x.1)) = true) x hx)
    have h4 := hp _ _ z
    omega
  · have h3 := of_decide_eq_true (List.all_eq_true.mp (by decide : xw_.all (fun x => decide (x.1 < 27 ∨ 243 ≤ x.1)) = true) x hx)
    have h4 := hp _ _ z
    omega
theorem OS.frd {P : Nat → Nat → Prop} {m m' : am_M} {o : Nat} (h : OS m o) (hf : Fr P m m') (hp : ∀ a k, P a k → ¬ (a = o ∧ 1 ≤ k) ∧ ¬ (a = o + 1 ∧ 2 ≤ k) ∧ ¬ (a = o + 19 ∧ k < 7) ∧ ((a = o + 7 ∨ a = o + 9 ∨ a = o + 11 ∨ a = o + 13 ∨ a = o + 15 ∨ a = o + 17) → 2 ≤ k)) : OS m' o := by
  refine h.fr hf (fun x hx z => ?_) (fun x hx z => ?_)
  · have h3 := of_decide_eq_true (List.all_eq_true.mp (by decide : orf_.all (fun x => decide ((x.1 = 0 ∧ 1 ≤ x.2.1) ∨ (x.1 = 1 ∧ 2 ≤ x.2.1) ∨ (x.1 = 19 ∧ x.2.1 < 7) ∨ ((x.1 = 7 ∨ x.1 = 9 ∨ x.1 = 11 ∨ x.1 = 13 ∨ x.1 = 15 ∨ x.1 = 17) ∧ x.2.1 < 2))) = true) x hx)
    have h4 := hp _ _ z
    omega
  · have h3 := of_decide_eq_true (List.all_eq_true.mp (by decide : owd_.all (fun x => decide (x.1 = 7 ∨ x.1 = 9 ∨ x.1 = 11 ∨ x.1 = 13 ∨ x.1 = 15 ∨ x.1 = 17)) = true) x hx)
    have h4 := hp _ _ z
    omega
section R75
variable {sa sv d N o : Nat} {m : am_M} {s : Nat → Int32}
theorem x88_2 (hX : XS m N) (hO : OS m o) (h1 : N + 27 ≤ o) (h2 : o + 27 ≤ N + 243) (nw : Nat) (hn : nw ≤ 12) (hw : gi_ m (o + 1) 1 = nI nw) (f : Nat → Nat) (hf : ∀ u, u < 12 → gi_ m (N + 18) u = nI (f u)) (m9 : am_M → Option am_R) (h9 : ∀ m1, Fr (fun a _ => a = o + 24) m m1 → r88 sa sv (d + 2) 2 [some (.ref o), some (.ref (N + 14)), some (.int (nI nw))] [] m1 = m9 m1) : ∃ m', r88 sa sv (d + 2) 2 [some (.ref o), some (.ref (N + 14)), some (.int (nI 0))] [] m = m9 m' ∧ Fr (fun a _ => a = o + 24) m m' ∧ ∀ w, w < 12 → gl_ m' (o + 24) w = gl_ m (o + 24) w + (nI (if w < nw then f w else 0)).toInt64 := by
  obtain ⟨m', g1, g2, g3⟩ := lp_inv (fun i m1 => r88 sa sv (d + 2) 2 [some (.ref o), some (.ref (N + 14)), some (.int (nI i))] [] m1) (fun i m1 => Fr (fun a _ => a = o + 24) m m1 ∧ ∀ w, w < 12 → gl_ m1 (o + 24) w = gl_ m (o + 24) w + (nI (if w < i then f w else 0)).toInt64) nw (fun i m1 hi ⟨f1, f2⟩ => by
    have hX1 := hX.frO f1 h1 h2 (fun a k z => by omega)
    have hO1 := hO.frd f1 (fun a k z => by omega)
    have e1 : gi_ m1 (o + 1) 1 = nI nw := (f1.2.1 _ _ (by omega)).trans hw
    have e2 : gi_ m1 (N + 18) i = nI (f i) := (f1.2.1 _ _ (by omega)).trans (hf i (by omega))
    refine ⟨ad_ m1 (o + 24) i (nI (f i)).toInt64, ?_, f1.ad rfl, fun w hw => ?_⟩
    · show r88 sa sv (d + 2) 2 _ [] m1 = _
      rw [b88_2]
      simp (disch := omega) only [gq_true, gb_true, gb_false, true_and, and_true, eq_self, not_false_eq_true, not_true_eq_false, true_or, or_true, false_or, or_false, false_and, and_false, c0_v, ci_v, cl_v, cf_v, pk_mul, nI_add, nI_clamp, nI_lt0, nI_0le, nI_eq0, nI_lt0r, nI_ltE, nI_leE, nI_eqE, nI_m1, in_t, ba0, ba1, Nat.one_ne_zero, Nat.reduceEqDiff, Nat.reduceLeDiff, Nat.add_eq_zero_iff, ok0 hO1, or0_1 hO1, ok1 hO1, e1, eq_false (show ¬ nw ≤ i by omega), or0_5 hO1, xk14 hX1, x41 hX1 i (by omega), e2, ok19 hO1, x52 hO1 i (nI (f i)) (by omega)]
    · rw [gl_ad, f2 w hw]
      by_cases e : w = i
      · rw [if_pos ⟨rfl, e⟩, if_neg (by omega), nL_0, if_pos (by omega), e]
      · rw [if_neg (fun z => e z.2)]
        by_cases e3 : w < i
        · rw [if_pos e3, if_pos (by omega)]
        · rw [if_neg e3, if_neg (by omega)]) m ⟨Fr.refl _ _, fun w hw => by rw [if_neg (by omega), nL_0]⟩
  exact ⟨m', g1.trans (h9 m' g2), g2, g3⟩
/-- the lines of an office -/
def bA2 (s : Nat → Int32) (l : List Ln) (p c i : Nat) : Nat := if c = 0 then eg_ l p i else if c = 1 then dw_ s l p i else 0
theorem bA2_s {l : List Ln} {i : Nat} {x : Ln} (hx : l[i]? = some x) (p c : Nat) : bA2 s l p c (i + 1) = bA2 s l p c i + if p = x.2.1 then (if c = 0 then x.2.2.1 else if c = 1 then wd_ s l i else 0) else 0 := by
  unfold bA2
  rw [eg_s hx, dw_s hx]
  by_cases e : p = x.2.1
  · rw [if_pos e, if_pos e, if_pos e]
    split
    · rfl
    · split <;> rfl
  · rw [if_neg e, if_neg e, if_neg e]; rfl
theorem bA2_0 (l : List Ln) (p c : Nat) : bA2 s l p c 0 = 0 := by
  unfold bA2
  repeat' split
  all_goals rfl
theorem bA2_b {l : List Ln} {b : Nat} (h : lsm_ l ≤ b) (p c i : Nat) (hi : i ≤ l.length) : bA2 s l p c i ≤ b := by
  have h1 := eg_b h p i hi
  have h2 := dw_og (s := s) (l := l) p i
  unfold bA2
  repeat' split
  all_goals omega
def BL (o a : Nat) : Prop := a = o + 20 ∨ a = o + 21 ∨ a = o + 22 ∨ a = o + 23
theorem x88_45 (hX : XS m N) (hO : OS m o) (h1 : N + 27 ≤ o) (h2 : o + 27 ≤ N + 243) (hC : WC s) {l : List Ln} (hl : l.length ≤ 64) (hb : lsm_ l ≤ 9999999) (hG : ∀ x ∈ l, GL s x) (hL : LF m (o + 18) l (wd_ s l)) (hr : gi_ m (o + 17) 2 = nI l.length) : ∃ m', r88 sa sv (d + 3) 45 [some (.ref o), some (.ref (N + 14)), some (.int (nI 0))] [] m = r88 sa sv (d + 3) 107 [some (.ref o), some (.ref (N + 14)), some (.int (nI 0))] [] m' ∧ Fr (fun a _ => BL o a) m m' ∧ (∀ p, gl_ m' (o + 20) p = gl_ m (o + 20) p + (nI (og_ s l p l.length)).toInt64) ∧ (∀ p c, c < 4 → gl_ m' (o + 21) (p * 4 + c) = gl_ m (o + 21) (p * 4 + c) + (nI (bA2 s l p c l.length)).toInt64) ∧ (∀ p c, c < 3 → gl_ m' (o + 22) (p * 3 + c) = gl_ m (o + 22) (p * 3 + c) + (nI (bA2 s l p c l.length)).toInt64) ∧ (∀ p w, w < 12 → gl_ m' (o + 23) (p * 12 + w) = gl_ m (o + 23) (p * 12 + w) + (nI (ew_ l p w l.length)).toInt64) := by
  have hnp := isN_lt (wc_np hC) (by decide)
  have hnw := isN_lt (wc_nw hC) (by decide)
  obtain ⟨m', g1, g2, g3⟩ := lp_inv (fun i m1 => r88 sa sv (d + 3) 45 [some (.ref o), some (.ref (N + 14)), some (.int (nI i))] [] m1) (fun i m1 => Fr (fun a _ => BL o a) m m1 ∧ (∀ p, gl_ m1 (o + 20) p = gl_ m (o + 20) p + (nI (og_ s l p i)).toInt64) ∧ (∀ p c, c < 4 → gl_ m1 (o + 21) (p * 4 + c) = gl_ m (o + 21) (p * 4 + c) + (nI (bA2 s l p c i)).toInt64) ∧ (∀ p c, c < 3 → gl_ m1 (o + 22) (p * 3 + c) = gl_ m (o + 22) (p * 3 + c) + (nI (bA2 s l p c i)).toInt64) ∧ (∀ p w, w < 12 → gl_ m1 (o + 23) (p * 12 + w) = gl_ m (o + 23) (p * 12 + w) + (nI (ew_ l p w i)).toInt64)) l.length (fun i m1 hi ⟨f1, f2, f3, f4, f5⟩ => by
    have hO1 := hO.frd f1 (fun a k z => by unfold BL at z; omega)
    have e1 : gi_ m1 (o + 17) 2 = nI l.length := (f1.2.1 _ _ (by unfold BL; omega)).trans hr
    have fr : ∀ k, gi_ m1 (o + 18) k = gi_ m (o + 18) k := fun k => f1.2.1 _ _ (by unfold BL; omega)
    have hx : l[i]? = some l[i] := List.getElem?_eq_getElem (by omega)
    generalize l[i] = x at hx
    obtain ⟨k0, k1, k2, k3⟩ := hL i x hx
    obtain ⟨q0, q1, q2, q3, q4⟩ := hG x (List.mem_of_getElem? hx)
    have hwd := wd_le (s := s) hx
    have t0 := tb_at (sa := sa) (sv := sv) (d := d + 2) (ot17 hO1) (by decide) i 0 (by omega)
    have t1 := tb_at (sa := sa) (sv := sv) (d := d + 2) (ot17 hO1) (by decide) i 1 (by omega)
    have t2 := tb_at (sa := sa) (sv := sv) (d := d + 2) (ot17 hO1) (by decide) i 2 (by omega)
    have t3 := tb_at (sa := sa) (sv := sv) (d := d + 2) (ot17 hO1) (by decide) i 3 (by omega)
    rw [show o + 17 + 1 = o + 18 from rfl, fr] at t0 t1 t2 t3
    rw [show i * 4 + 0 = i * 4 from rfl, k0] at t0
    rw [k1] at t1
    rw [k2] at t2
    rw [k3] at t3
    refine ⟨ad_ (ad_ (ae_ (ae_ m1 o x.2.1 0 (nI x.2.2.1).toInt64) o x.2.1 1 (nI (wd_ s l i)).toInt64) (o + 23) (x.2.1 * 12 + x.1) (nI x.2.2.1).toInt64) (o + 20) x.2.1 (nI (x.2.2.1 - wd_ s l i)).toInt64, ?_, ?_, fun p => ?_, fun p c hc => ?_, fun p c hc => ?_, fun p w hw => ?_⟩
    · show r88 sa sv (d + 3) 45 _ [] m1 = _
      rw [b88_45]
      simp (disch := omega) only [gq_true, gb_true, gb_false, true_and, and_true, eq_self, not_false_eq_true, not_true_eq_false, true_or, or_true, false_or, or_false, false_and, and_false, c0_v, ci_v, cl_v, cf_v, pk_mul, nI_add, nI_clamp, nI_lt0, nI_0le, nI_eq0, nI_lt0r, nI_ltE, nI_leE, nI_eqE, nI_m1, in_t, ba0, ba1, Nat.one_ne_zero, Nat.reduceEqDiff, Nat.reduceLeDiff, Nat.add_eq_zero_iff, ok0 hO1, or0_4 hO1, ok17 hO1, e1, eq_false (show ¬ l.length ≤ i by omega), or0_5 hO1, t0, t1, t2, t3, ok19 hO1, x53 hO1 x.2.1 x.1 x.2.2.1 (wd_ s l i) (by omega) (by omega) hwd]
    · unfold ae_ BL
      unfold BL at f1
      exact (((((f1.ad (by omega)).ad (by omega)).ad (by omega)).ad (by omega)).ad (by omega)).ad (by omega)
    · have hbb := og_b (s := s) hb p (i + 1) (by omega)
      rw [og_t hx] at hbb ⊢
      simp (disch := omega) only [ae_, gl_ad, eq_self, true_and, if_neg]
      rw [f2]
      by_cases e : p = x.2.1
      · rw [if_pos e, if_pos e, nL_acc]
        rw [if_pos e] at hbb; omega
      · rw [if_neg e, if_neg e]; rfl
    · have hbb := bA2_b (s := s) hb p c (i + 1) (by omega)
      rw [bA2_s hx] at hbb ⊢
      simp (disch := omega) only [ae_, gl_ad, eq_self, true_and, if_neg]
      rw [f3 p c hc]
      by_cases e : p = x.2.1
      · rw [if_pos e] at hbb ⊢
        by_cases c0 : c = 0
        · rw [if_pos c0] at hbb ⊢
          rw [if_neg (by omega), if_pos (by omega), nL_acc]; omega
        · rw [if_neg c0] at hbb ⊢
          by_cases c1 : c = 1
          · rw [if_pos c1] at hbb ⊢
            rw [if_pos (by omega), nL_acc]; omega
          · rw [if_neg c1, if_neg (by omega), if_neg (by omega)]; rfl
      · rw [if_neg e, if_neg (by omega), if_neg (by omega)]; rfl
    · have hbb := bA2_b (s := s) hb p c (i + 1) (by omega)
      rw [bA2_s hx] at hbb ⊢
      simp (disch := omega) only [ae_, gl_ad, eq_self, true_and, if_neg]
      rw [f4 p c hc]
      by_cases e : p = x.2.1
      · rw [if_pos e] at hbb ⊢
        by_cases c0 : c = 0
        · rw [if_pos c0] at hbb ⊢
          rw [if_neg (by omega), if_pos (by omega), nL_acc]; omega
        · rw [if_neg c0] at hbb ⊢
          by_cases c1 : c = 1
          · rw [if_pos c1] at hbb ⊢
            rw [if_pos (by omega), nL_acc]; omega
          · rw [if_neg c1, if_neg (by omega), if_neg (by omega)]; rfl
      · rw [if_neg e, if_neg (by omega), if_neg (by omega)]; rfl
    · have hbb : ew_ l p w (i + 1) ≤ 9999999 := by
        have h3 := ew_le (l := l) p w (i + 1)
        have h4 := eg_b hb p (i + 1) (by omega)
        omega
      rw [ew_s hx] at hbb ⊢
      simp (disch := omega) only [ae_, gl_ad, eq_self, true_and, if_neg]
      rw [f5 p w hw]
      by_cases e : p = x.2.1 ∧ w = x.1
      · rw [if_pos e] at hbb ⊢
        rw [if_pos (by omega), nL_acc]; omega
      · rw [if_neg e, if_neg (by omega)]; rfl) m ⟨Fr.refl _ _, fun p => by rw [og_, nL_0], fun p c _ => by rw [bA2_0, nL_0], fun p c _ => by rw [bA2_0, nL_0], fun p w _ => by rw [ew_, nL_0]⟩
  refine ⟨m', g1.trans ?_, g2, g3⟩
  have hO1 := hO.frd g2 (fun a k z => by unfold BL at z; omega)
  have e1 : gi_ m' (o + 17) 2 = nI l.length := (g2.2.1 _ _ (by unfold BL; omega)).trans hr
  show r88 sa sv (d + 3) 45 _ [] m' = _
  rw [b88_45]
  simp (disch := omega) only [gq_true, gb_true, gb_false, true_and, and_true, eq_self, not_false_eq_true, not_true_eq_false, true_or, or_true, false_or, or_false, false_and, and_false, c0_v, ci_v, cl_v, cf_v, pk_mul, nI_add, nI_clamp, nI_lt0, nI_0le, nI_eq0, nI_lt0r, nI_ltE, nI_leE, nI_eqE, nI_m1, in_t, ba0, ba1, Nat.one_ne_zero, Nat.reduceEqDiff, Nat.reduceLeDiff, Nat.add_eq_zero_iff, ok0 hO1, or0_4 hO1, ok17 hO1, e1, Nat.le_refl]
end R75
