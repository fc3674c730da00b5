/-! the ends of the reference's assignments and advances -/
section R89
variable {sa sv d N T n i B r : Nat} {m m1 : am_M} {b : Nat → Nat} {s s' : Nat → Int32} {q q' : Nat → Int64} {σ : Er ⊕ Nat} {v0 v1 v2 v3 v4 v5 : Int32}
theorem row_as (hR : RS m1 N s q) : gi_ (si_ (si_ (si_ (si_ (si_ (si_ m1 (N + 245) (594 + 6 * r) v0) (N + 245) (594 + 6 * r + 1) v1) (N + 245) (594 + 6 * r + 2) v2) (N + 245) (594 + 6 * r + 3) v3) (N + 245) (594 + 6 * r + 4) v4) (N + 245) (594 + 6 * r + 5) v5) (N + 245) 2 = s 2 ∧ Fr (fun a _ => a = N + 245) m1 (si_ (si_ (si_ (si_ (si_ (si_ (si_ m1 (N + 245) (594 + 6 * r) v0) (N + 245) (594 + 6 * r + 1) v1) (N + 245) (594 + 6 * r + 2) v2) (N + 245) (594 + 6 * r + 3) v3) (N + 245) (594 + 6 * r + 4) v4) (N + 245) (594 + 6 * r + 5) v5) (N + 245) 2 (nI (r + 1))) ∧ RS (si_ (si_ (si_ (si_ (si_ (si_ (si_ m1 (N + 245) (594 + 6 * r) v0) (N + 245) (594 + 6 * r + 1) v1) (N + 245) (594 + 6 * r + 2) v2) (N + 245) (594 + 6 * r + 3) v3) (N + 245) (594 + 6 * r + 4) v4) (N + 245) (594 + 6 * r + 5) v5) (N + 245) 2 (nI (r + 1))) N (rowU s 594 2 r (v6c v0 v1 v2 v3 v4 v5)) q := by
  have hF : Fr (fun a _ => a = N + 245) m1 (si_ (si_ (si_ (si_ (si_ (si_ (si_ m1 (N + 245) (594 + 6 * r) v0) (N + 245) (594 + 6 * r + 1) v1) (N + 245) (594 + 6 * r + 2) v2) (N + 245) (594 + 6 * r + 3) v3) (N + 245) (594 + 6 * r + 4) v4) (N + 245) (594 + 6 * r + 5) v5) (N + 245) 2 (nI (r + 1))) := by
    have f0 : Fr (fun a _ => a = N + 245) m1 m1 := Fr.refl _ _
    refine Fr.si (Fr.si (Fr.si (Fr.si (Fr.si (Fr.si (Fr.si f0 ?_) ?_) ?_) ?_) ?_) ?_) ?_ <;> exact rfl
  refine ⟨?_, hF, hR.1.fr1 hF (by omega), funext fun k => ?_, (funext fun k => hF.2.2.1 _ _ (by omega)).trans hR.2.2⟩
  · rw [gi_si, if_neg (by omega), gi_si, if_neg (by omega), gi_si, if_neg (by omega), gi_si, if_neg (by omega), gi_si, if_neg (by omega), gi_si, if_neg (by omega)]; exact rs hR _
  · rw [gi_si, gi_si, gi_si, gi_si, gi_si, gi_si, gi_si, rs hR]
    unfold rowU
    by_cases e : k = 2
    · rw [if_pos ⟨rfl, e⟩, if_pos e]
    · rw [if_neg (fun z => e z.2), if_neg e]
      by_cases e2 : 594 + 6 * r ≤ k ∧ k < 594 + 6 * r + 6
      · rw [if_pos e2]
        obtain ⟨j, rfl⟩ : ∃ j, k = 594 + 6 * r + j := ⟨k - (594 + 6 * r), by omega⟩
        rw [show 594 + 6 * r + j - (594 + 6 * r) = j by omega]
        rcases (by omega : j = 0 ∨ j = 1 ∨ j = 2 ∨ j = 3 ∨ j = 4 ∨ j = 5) with rfl | rfl | rfl | rfl | rfl | rfl
        · rw [if_neg (by omega), if_neg (by omega), if_neg (by omega), if_neg (by omega), if_neg (by omega), if_pos ⟨rfl, rfl⟩]; rfl
        · rw [if_neg (by omega), if_neg (by omega), if_neg (by omega), if_neg (by omega), if_pos ⟨rfl, rfl⟩]; rfl
        · rw [if_neg (by omega), if_neg (by omega), if_neg (by omega), if_pos ⟨rfl, rfl⟩]; rfl
        · rw [if_neg (by omega), if_neg (by omega), if_pos ⟨rfl, rfl⟩]; rfl
        · rw [if_neg (by omega), if_pos ⟨rfl, rfl⟩]; rfl
        · rw [if_pos ⟨rfl, rfl⟩]; rfl
      · rw [if_neg e2, if_neg (by omega), if_neg (by omega), if_neg (by omega), if_neg (by omega), if_neg (by omega), if_neg (by omega)]
theorem row_ad (hR : RS m1 N s q) : gi_ (si_ (si_ (si_ (si_ (si_ (si_ m1 (N + 245) (690 + 6 * r) v0) (N + 245) (690 + 6 * r + 1) v1) (N + 245) (690 + 6 * r + 2) v2) (N + 245) (690 + 6 * r + 3) v3) (N + 245) (690 + 6 * r + 4) v4) (N + 245) (690 + 6 * r + 5) v5) (N + 245) 3 = s 3 ∧ Fr (fun a _ => a = N + 245) m1 (si_ (si_ (si_ (si_ (si_ (si_ (si_ m1 (N + 245) (690 + 6 * r) v0) (N + 245) (690 + 6 * r + 1) v1) (N + 245) (690 + 6 * r + 2) v2) (N + 245) (690 + 6 * r + 3) v3) (N + 245) (690 + 6 * r + 4) v4) (N + 245) (690 + 6 * r + 5) v5) (N + 245) 3 (nI (r + 1))) ∧ RS (si_ (si_ (si_ (si_ (si_ (si_ (si_ m1 (N + 245) (690 + 6 * r) v0) (N + 245) (690 + 6 * r + 1) v1) (N + 245) (690 + 6 * r + 2) v2) (N + 245) (690 + 6 * r + 3) v3) (N + 245) (690 + 6 * r + 4) v4) (N + 245) (690 + 6 * r + 5) v5) (N + 245) 3 (nI (r + 1))) N (rowU s 690 3 r (v6c v0 v1 v2 v3 v4 v5)) q := by
  have hF : Fr (fun a _ => a = N + 245) m1 (si_ (si_ (si_ (si_ (si_ (si_ (si_ m1 (N + 245) (690 + 6 * r) v0) (N + 245) (690 + 6 * r + 1) v1) (N + 245) (690 + 6 * r + 2) v2) (N + 245) (690 + 6 * r + 3) v3) (N + 245) (690 + 6 * r + 4) v4) (N + 245) (690 + 6 * r + 5) v5) (N + 245) 3 (nI (r + 1))) := by
    have f0 : Fr (fun a _ => a = N + 245) m1 m1 := Fr.refl _ _
    refine Fr.si (Fr.si (Fr.si (Fr.si (Fr.si (Fr.si (Fr.si f0 ?_) ?_) ?_) ?_) ?_) ?_) ?_ <;> exact rfl
  refine ⟨?_, hF, hR.1.fr1 hF (by omega), funext fun k => ?_, (funext fun k => hF.2.2.1 _ _ (by omega)).trans hR.2.2⟩
  · rw [gi_si, if_neg (by omega), gi_si, if_neg (by omega), gi_si, if_neg (by omega), gi_si, if_neg (by omega), gi_si, if_neg (by omega), gi_si, if_neg (by omega)]; exact rs hR _
  · rw [gi_si, gi_si, gi_si, gi_si, gi_si, gi_si, gi_si, rs hR]
    unfold rowU
    by_cases e : k = 3
    · rw [if_pos ⟨rfl, e⟩, if_pos e]
    · rw [if_neg (fun z => e z.2), if_neg e]
      by_cases e2 : 690 + 6 * r ≤ k ∧ k < 690 + 6 * r + 6
      · rw [if_pos e2]
        obtain ⟨j, rfl⟩ : ∃ j, k = 690 + 6 * r + j := ⟨k - (690 + 6 * r), by omega⟩
        rw [show 690 + 6 * r + j - (690 + 6 * r) = j by omega]
        rcases (by omega : j = 0 ∨ j = 1 ∨ j = 2 ∨ j = 3 ∨ j = 4 ∨ j = 5) with rfl | rfl | rfl | rfl | rfl | rfl
        · rw [if_neg (by omega), if_neg (by omega), if_neg (by omega), if_neg (by omega), if_neg (by omega), if_pos ⟨rfl, rfl⟩]; rfl
        · rw [if_neg (by omega), if_neg (by omega), if_neg (by omega), if_neg (by omega), if_pos ⟨rfl, rfl⟩]; rfl
        · rw [if_neg (by omega), if_neg (by omega), if_neg (by omega), if_pos ⟨rfl, rfl⟩]; rfl
        · rw [if_neg (by omega), if_neg (by omega), if_pos ⟨rfl, rfl⟩]; rfl
        · rw [if_neg (by omega), if_pos ⟨rfl, rfl⟩]; rfl
        · rw [if_pos ⟨rfl, rfl⟩]; rfl
      · rw [if_neg e2, if_neg (by omega), if_neg (by omega), if_neg (by omega), if_neg (by omega), if_neg (by omega), if_neg (by omega)]
theorem y279_111 (h : RQ m N b n σ) (hR : RS m N s q) (hC : WC s) (l1 l2 l3 l4 l5 l6 : Int32) (w : Nat) (hw : w < 100) (o7 : Option Value) (hn : gd_s (pst (eb σ (sFit b n w))) = true → cN s 2 < 16) : ∃ m', r279 sa sv (d + 3) 111 [some (.ref (N + 243)), some (.int l1), some (.int l2), some (.int l3), some (.int l4), some (.int l5), some (.int l6), o7] [.int (nI w), .ref (N + 243)] m = some (.inl none, m') ∧ Fr (RWr N) m m' ∧ RQ m' N b n (pst (eb σ (sFit b n w))) ∧ (gd_s (pst (eb σ (sFit b n w))) = true → RS m' N (rowU s 594 2 (cN s 2) (v6c l1 l2 l3 l4 l5 l6)) q) := by
  obtain ⟨m1, g1, g2, g3⟩ := y268 (sa := sa) (sv := sv) (d := d) h w hw
  have e1 := y235 (sa := sa) (sv := sv) (d := d + 2) g3
  have hR1 := hR.h g2
  generalize pst (eb σ (sFit b n w)) = τ at *
  have hF1 : Fr (RWr N) m m1 := g2.mono fun _ _ z => Or.inl z.sh
  cases hg : gd_s τ with
  | false =>
    rw [hg, tr_f] at e1
    refine ⟨m1, ?_, hF1, g3, fun z => by cases z⟩
    rw [b279_111]
    simp (disch := omega) only [gq_true, gb_true, gb_false, true_and, and_true, eq_self, not_false_eq_true, not_true_eq_false, true_or, or_true, false_or, or_false, false_and, and_false, c0_v, ci_v, cl_v, cf_v, pk_mul, nI_add, nI_clamp, nI_lt0, nI_0le, nI_eq0, nI_lt0r, nI_ltE, nI_leE, nI_eqE, nI_m1, in_t, ba0, ba1, Nat.one_ne_zero, Nat.reduceEqDiff, Nat.reduceLeDiff, Nat.add_eq_zero_iff, xk243 h.1, g1, xk243 g3.1, e1]
  | true =>
    rw [hg, tr_t] at e1
    have h10 := hn hg
    have np : gi_ m1 (N + 245) 2 = nI (cN s 2) := (rs hR1 2).trans ((wc_na hC).c (by decide)).1
    obtain ⟨k1, k2, k3⟩ := row_as (r := cN s 2) (v0 := l1) (v1 := l2) (v2 := l3) (v3 := l4) (v4 := l5) (v5 := l6) hR1
    rw [((wc_na hC).c (by decide)).1] at k1
    refine ⟨_, ?_, hF1.trans (k2.mono fun _ _ z => Or.inr (Or.inl z)), g3.fr k2 (fun a k z => ⟨XF.hi (by omega), by omega, fun _ => by omega⟩), fun _ => k3⟩
    rw [b279_111]
    simp (disch := omega) only [gq_true, gb_true, gb_false, true_and, and_true, eq_self, not_false_eq_true, not_true_eq_false, true_or, or_true, false_or, or_false, false_and, and_false, c0_v, ci_v, cl_v, cf_v, pk_mul, nI_add, nI_clamp, nI_lt0, nI_0le, nI_eq0, nI_lt0r, nI_ltE, nI_leE, nI_eqE, nI_m1, in_t, ba0, ba1, Nat.one_ne_zero, Nat.reduceEqDiff, Nat.reduceLeDiff, Nat.add_eq_zero_iff, xk243 h.1, g1, xk243 g3.1, e1, xr243_15 g3.1, xk245 g3.1, np, k1]
theorem y280_101 (h : RQ m N b n σ) (hR : RS m N s q) (hC : WC s) (l1 l2 l3 l4 l5 l6 : Int32) (w : Nat) (hw : w < 100) (o7 : Option Value) (hn : gd_s (pst (eb σ (sFit b n w))) = true → cN s 3 < 12) : ∃ m', r280 sa sv (d + 3) 101 [some (.ref (N + 243)), some (.int l1), some (.int l2), some (.int l3), some (.int l4), some (.int l5), some (.int l6), o7] [.int (nI w), .ref (N + 243)] m = some (.inl none, m') ∧ Fr (RWr N) m m' ∧ RQ m' N b n (pst (eb σ (sFit b n w))) ∧ (gd_s (pst (eb σ (sFit b n w))) = true → RS m' N (rowU s 690 3 (cN s 3) (v6c l1 l3 l2 l4 l6 l2)) q) := by
  obtain ⟨m1, g1, g2, g3⟩ := y268 (sa := sa) (sv := sv) (d := d) h w hw
  have e1 := y235 (sa := sa) (sv := sv) (d := d + 2) g3
  have hR1 := hR.h g2
  generalize pst (eb σ (sFit b n w)) = τ at *
  have hF1 : Fr (RWr N) m m1 := g2.mono fun _ _ z => Or.inl z.sh
  cases hg : gd_s τ with
  | false =>
    rw [hg, tr_f] at e1
    refine ⟨m1, ?_, hF1, g3, fun z => by cases z⟩
    rw [b280_101]
    simp (disch := omega) only [gq_true, gb_true, gb_false, true_and, and_true, eq_self, not_false_eq_true, not_true_eq_false, true_or, or_true, false_or, or_false, false_and, and_false, c0_v, ci_v, cl_v, cf_v, pk_mul, nI_add, nI_clamp, nI_lt0, nI_0le, nI_eq0, nI_lt0r, nI_ltE, nI_leE, nI_eqE, nI_m1, in_t, ba0, ba1, Nat.one_ne_zero, Nat.reduceEqDiff, Nat.reduceLeDiff, Nat.add_eq_zero_iff, xk243 h.1, g1, xk243 g3.1, e1]
  | true =>
    rw [hg, tr_t] at e1
    have h10 := hn hg
    have np : gi_ m1 (N + 245) 3 = nI (cN s 3) := (rs hR1 3).trans ((wc_nd hC).c (by decide)).1
    obtain ⟨k1, k2, k3⟩ := row_ad (r := cN s 3) (v0 := l1) (v1 := l3) (v2 := l2) (v3 := l4) (v4 := l6) (v5 := l2) hR1
    rw [((wc_nd hC).c (by decide)).1] at k1
    refine ⟨_, ?_, hF1.trans (k2.mono fun _ _ z => Or.inr (Or.inl z)), g3.fr k2 (fun a k z => ⟨XF.hi (by omega), by omega, fun _ => by omega⟩), fun _ => k3⟩
    rw [b280_101]
    simp (disch := omega) only [gq_true, gb_true, gb_false, true_and, and_true, eq_self, not_false_eq_true, not_true_eq_false, true_or, or_true, false_or, or_false, false_and, and_false, c0_v, ci_v, cl_v, cf_v, pk_mul, nI_add, nI_clamp, nI_lt0, nI_0le, nI_eq0, nI_lt0r, nI_ltE, nI_leE, nI_eqE, nI_m1, in_t, ba0, ba1, Nat.one_ne_zero, Nat.reduceEqDiff, Nat.reduceLeDiff, Nat.add_eq_zero_iff, xk243 h.1, g1, xk243 g3.1, e1, xr243_15 g3.1, xk245 g3.1, np, k1]
end R89
