/-! a split more, a source more: the reference -/
section P83
variable {sa sv d N o B : Nat} {m : am_M} {s : Nat → Int32} {q : Nat → Int64} {L : List (Nat × Nat)}
theorem y255 (w k j : Nat) (hj : 18 + 48 * w + k = j) : am_ca sa sv (d + 1) 255 [.int (nI w), .int (nI k)] m = some (.inl (some (.int (nI j))), m) := by
  subst hj
  rw [c255, b255_0]
  simp (disch := omega) only [gq_true, gb_true, gb_false, true_and, and_true, eq_self, not_false_eq_true, not_true_eq_false, true_or, or_true, false_or, or_false, false_and, and_false, c0_v, ci_v, cl_v, cf_v, pk_mul, nI_add, nI_clamp, nI_lt0, nI_0le, nI_eq0, nI_lt0r, nI_ltE, nI_leE, nI_eqE, nI_m1, in_t, ba0, ba1, Nat.one_ne_zero, Nat.reduceEqDiff, Nat.reduceLeDiff, Nat.add_eq_zero_iff]
theorem y269 (hR : RS m N s q) (hH : SHr m N L) (w n day : Nat) (hw : w < 12) (hn4 : n < 4) (hn : s (18 + 48 * w) = nI n) : ∃ m', am_ca sa sv (d + 2) 269 [.ref (N + 243), .int (nI w), .int (nI day)] m = some (.inl none, m') ∧ Fr (fun a _ => a = N + 245) m m' ∧ RS m' N (splU s w n day L) q := by
  obtain ⟨t1, t2, t3⟩ := hH
  have hX := hR.1
  have hF1 : Fr (fun a _ => a = N + 245) m (si_ m (N + 245) (19 + 48 * w + n) (nI day)) := (Fr.refl _ _).si rfl
  have hX1 := hX.fr1 hF1 (by omega)
  have k27 : gi_ (si_ m (N + 245) (19 + 48 * w + n) (nI day)) (N + 243) 27 = nI L.length := by rw [gi_si, if_neg (by omega)]; exact t1
  have run1 : am_ca sa sv (d + 2) 269 [.ref (N + 243), .int (nI w), .int (nI day)] m = r269 sa sv (d + 1) 39 [some (.ref (N + 243)), some (.int (nI w)), some (.int (nI day)), some (.int (nI n)), some (.int (nI 0))] [] (si_ (si_ m (N + 245) (19 + 48 * w + n) (nI day)) (N + 245) (23 + 48 * w + n) (nI L.length)) := by
    rw [c269, b269_0]
    simp (disch := omega) only [gq_true, gb_true, gb_false, true_and, and_true, eq_self, not_false_eq_true, not_true_eq_false, true_or, or_true, false_or, or_false, false_and, and_false, c0_v, ci_v, cl_v, cf_v, pk_mul, nI_add, nI_clamp, nI_lt0, nI_0le, nI_eq0, nI_lt0r, nI_ltE, nI_leE, nI_eqE, nI_m1, in_t, ba0, ba1, Nat.one_ne_zero, Nat.reduceEqDiff, Nat.reduceLeDiff, Nat.add_eq_zero_iff, xk243 hX, y256 hR w 0 (18 + 48 * w) (by omega) (by omega), hn, xr243_15 hX, y255 w (1 + n) (19 + 48 * w + n) (by omega), xk245 hX, xk243 hX1, xr243_15 hX1, y255 w (5 + n) (23 + 48 * w + n) (by omega), xk245 hX1, k27]
  have hF2 : Fr (fun a _ => a = N + 245) m (si_ (si_ m (N + 245) (19 + 48 * w + n) (nI day)) (N + 245) (23 + 48 * w + n) (nI L.length)) := hF1.si rfl
  have v2 : ∀ k, gi_ (si_ (si_ m (N + 245) (19 + 48 * w + n) (nI day)) (N + 245) (23 + 48 * w + n) (nI L.length)) (N + 245) k = if k = 19 + 48 * w + n then nI day else if k = 23 + 48 * w + n then nI L.length else s k := fun k => by
    rw [gi_si, gi_si]
    by_cases e1 : k = 23 + 48 * w + n
    · rw [if_pos ⟨rfl, e1⟩, if_neg (show ¬ k = 19 + 48 * w + n by omega), if_pos e1]
    · rw [if_neg (fun z => e1 z.2), if_neg e1]
      by_cases e2 : k = 19 + 48 * w + n
      · rw [if_pos ⟨rfl, e2⟩, if_pos e2]
      · rw [if_neg (fun z => e2 z.2), if_neg e2]; exact rs hR k
  generalize si_ (si_ m (N + 245) (19 + 48 * w + n) (nI day)) (N + 245) (23 + 48 * w + n) (nI L.length) = m2 at *
  obtain ⟨m3, g1, g2, g3⟩ := lp_inv (fun i M => r269 sa sv (d + 1) 39 [some (.ref (N + 243)), some (.int (nI w)), some (.int (nI day)), some (.int (nI n)), some (.int (nI i))] [] M) (fun i M => Fr (fun a _ => a = N + 245) m M ∧ ∀ k, gi_ M (N + 245) k = if k = 19 + 48 * w + n then nI day else if k = 23 + 48 * w + n then nI L.length else if 27 + 48 * w + 4 * n ≤ k ∧ k < 27 + 48 * w + 4 * n + i then nI (L.getD (k - (27 + 48 * w + 4 * n)) (0, 0)).1 else if 43 + 48 * w + 4 * n ≤ k ∧ k < 43 + 48 * w + 4 * n + i then nI (L.getD (k - (43 + 48 * w + 4 * n)) (0, 0)).2 else s k) L.length (fun i M hi ⟨f1, f2⟩ => by
    have hXM := hX.fr1 f1 (by omega)
    have hx : L[i]? = some L[i] := List.getElem?_eq_getElem (by omega)
    generalize L[i] = x at hx
    obtain ⟨a1, a2, a3, a4⟩ := t3 i x hx
    have f1' : Fr (fun a _ => a = N + 245) m (si_ M (N + 245) (27 + 48 * w + 4 * n + i) (nI x.1)) := f1.si rfl
    have hXM' := hX.fr1 f1' (by omega)
    have fr : ∀ {M'} (a k : Nat), Fr (fun a _ => a = N + 245) m M' → ¬ a = N + 245 → gi_ M' a k = gi_ m a k := fun a k h ha => h.2.1 _ _ ha
    have k1 : gi_ M (N + 253) i = nI x.1 := (fr _ _ f1 (by omega)).trans a3
    have k2 : gi_ (si_ M (N + 245) (27 + 48 * w + 4 * n + i) (nI x.1)) (N + 254) i = nI x.2 := (fr _ _ f1' (by omega)).trans a4
    refine ⟨si_ (si_ M (N + 245) (27 + 48 * w + 4 * n + i) (nI x.1)) (N + 245) (43 + 48 * w + 4 * n + i) (nI x.2), ?_, f1'.si rfl, fun k => ?_⟩
    · show r269 sa sv (d + 1) 39 _ [] M = _
      rw [b269_39]
      simp (disch := omega) only [gq_true, gb_true, gb_false, true_and, and_true, eq_self, not_false_eq_true, not_true_eq_false, true_or, or_true, false_or, or_false, false_and, and_false, c0_v, ci_v, cl_v, cf_v, pk_mul, nI_add, nI_clamp, nI_lt0, nI_0le, nI_eq0, nI_lt0r, nI_ltE, nI_leE, nI_eqE, nI_m1, in_t, ba0, ba1, Nat.one_ne_zero, Nat.reduceEqDiff, Nat.reduceLeDiff, Nat.add_eq_zero_iff, xk243 hXM, (fr _ _ f1 (by omega) : gi_ M (N + 243) 27 = _), t1, eq_false (show ¬ L.length ≤ i by omega), xr243_15 hXM, y255 w (9 + 4 * n + i) (27 + 48 * w + 4 * n + i) (by omega), xr243_25 hXM, xk253 hXM, k1, xk245 hXM, xk243 hXM', xr243_15 hXM', y255 w (25 + 4 * n + i) (43 + 48 * w + 4 * n + i) (by omega), xr243_26 hXM', xk254 hXM', k2, xk245 hXM']
    · rw [gi_si, gi_si, f2 k]
      by_cases e1 : k = 43 + 48 * w + 4 * n + i
      · rw [if_pos ⟨rfl, e1⟩, if_neg (show ¬ k = 19 + 48 * w + n by omega), if_neg (show ¬ k = 23 + 48 * w + n by omega), if_neg (show ¬ (27 + 48 * w + 4 * n ≤ k ∧ k < 27 + 48 * w + 4 * n + (i + 1)) by omega), if_pos (show 43 + 48 * w + 4 * n ≤ k ∧ k < 43 + 48 * w + 4 * n + (i + 1) by omega), show k - (43 + 48 * w + 4 * n) = i by omega, getD_some hx]
      · rw [if_neg (fun z => e1 z.2)]
        by_cases e2 : k = 27 + 48 * w + 4 * n + i
        · rw [if_pos ⟨rfl, e2⟩, if_neg (show ¬ k = 19 + 48 * w + n by omega), if_neg (show ¬ k = 23 + 48 * w + n by omega), if_pos (show 27 + 48 * w + 4 * n ≤ k ∧ k < 27 + 48 * w + 4 * n + (i + 1) by omega), show k - (27 + 48 * w + 4 * n) = i by omega, getD_some hx]
        · rw [if_neg (fun z => e2 z.2)]
          have z1 : (27 + 48 * w + 4 * n ≤ k ∧ k < 27 + 48 * w + 4 * n + (i + 1)) = (27 + 48 * w + 4 * n ≤ k ∧ k < 27 + 48 * w + 4 * n + i) := propext (by omega)
          have z2 : (43 + 48 * w + 4 * n ≤ k ∧ k < 43 + 48 * w + 4 * n + (i + 1)) = (43 + 48 * w + 4 * n ≤ k ∧ k < 43 + 48 * w + 4 * n + i) := propext (by omega)
          simp only [z1, z2]) m2 ⟨hF2, fun k => by rw [v2 k, if_neg (show ¬ (27 + 48 * w + 4 * n ≤ k ∧ k < 27 + 48 * w + 4 * n + 0) by omega), if_neg (show ¬ (43 + 48 * w + 4 * n ≤ k ∧ k < 43 + 48 * w + 4 * n + 0) by omega)]⟩
  have hX3 := hX.fr1 g2 (by omega)
  have h18 : gi_ m3 (N + 245) (18 + 48 * w) = nI n := by rw [g3, if_neg (by omega), if_neg (by omega), if_neg (by omega), if_neg (by omega)]; exact hn
  have hF : Fr (fun a _ => a = N + 245) m (si_ m3 (N + 245) (18 + 48 * w) (nI (n + 1))) := g2.si rfl
  refine ⟨si_ m3 (N + 245) (18 + 48 * w) (nI (n + 1)), ?_, hF, hX.fr1 hF (by omega), funext fun k => ?_, (funext fun k => hF.2.2.1 _ _ (by omega)).trans hR.2.2⟩
  · refine run1.trans (g1.trans ?_)
    show r269 sa sv (d + 1) 39 _ [] m3 = _
    rw [b269_39]
    simp (disch := omega) only [gq_true, gb_true, gb_false, true_and, and_true, eq_self, not_false_eq_true, not_true_eq_false, true_or, or_true, false_or, or_false, false_and, and_false, c0_v, ci_v, cl_v, cf_v, pk_mul, nI_add, nI_clamp, nI_lt0, nI_0le, nI_eq0, nI_lt0r, nI_ltE, nI_leE, nI_eqE, nI_m1, in_t, ba0, ba1, Nat.one_ne_zero, Nat.reduceEqDiff, Nat.reduceLeDiff, Nat.add_eq_zero_iff, xk243 hX3, (g2.2.1 (N + 243) 27 (by omega)), t1, Nat.le_refl, xr243_15 hX3, y255 w 0 (18 + 48 * w) (by omega), xk245 hX3, h18]
  · rw [gi_si]
    unfold splU
    by_cases e : k = 18 + 48 * w
    · rw [if_pos ⟨rfl, e⟩, if_pos e]
    · rw [if_neg (fun z => e z.2), if_neg e]; exact g3 k
theorem y270 (hR : RS m N s q) (w n so pc : Nat) (hw : w < 12) (hn3 : n < 3) (hn : s (59 + 48 * w) = nI n) : ∃ m', am_ca sa sv (d + 2) 270 [.ref (N + 243), .int (nI w), .int (nI so), .int (nI pc)] m = some (.inl none, m') ∧ Fr (fun a _ => a = N + 245) m m' ∧ RS m' N (srcU s w n so pc) q := by
  have hX := hR.1
  have hF1 : Fr (fun a _ => a = N + 245) m (si_ m (N + 245) (60 + 48 * w + n) (nI so)) := (Fr.refl _ _).si rfl
  have hX1 := hX.fr1 hF1 (by omega)
  have hF2 : Fr (fun a _ => a = N + 245) m (si_ (si_ m (N + 245) (60 + 48 * w + n) (nI so)) (N + 245) (63 + 48 * w + n) (nI pc)) := hF1.si rfl
  have hX2 := hX.fr1 hF2 (by omega)
  have h59 : gi_ (si_ (si_ m (N + 245) (60 + 48 * w + n) (nI so)) (N + 245) (63 + 48 * w + n) (nI pc)) (N + 245) (59 + 48 * w) = nI n := by rw [gi_si, if_neg (by omega), gi_si, if_neg (by omega), rs hR]; exact hn
  have hF : Fr (fun a _ => a = N + 245) m (si_ (si_ (si_ m (N + 245) (60 + 48 * w + n) (nI so)) (N + 245) (63 + 48 * w + n) (nI pc)) (N + 245) (59 + 48 * w) (nI (n + 1))) := hF2.si rfl
  refine ⟨si_ (si_ (si_ m (N + 245) (60 + 48 * w + n) (nI so)) (N + 245) (63 + 48 * w + n) (nI pc)) (N + 245) (59 + 48 * w) (nI (n + 1)), ?_, hF, hX.fr1 hF (by omega), funext fun k => ?_, (funext fun k => hF.2.2.1 _ _ (by omega)).trans hR.2.2⟩
  · rw [c270, b270_0]
    simp (disch := omega) only [gq_true, gb_true, gb_false, true_and, and_true, eq_self, not_false_eq_true, not_true_eq_false, true_or, or_true, false_or, or_false, false_and, and_false, c0_v, ci_v, cl_v, cf_v, pk_mul, nI_add, nI_clamp, nI_lt0, nI_0le, nI_eq0, nI_lt0r, nI_ltE, nI_leE, nI_eqE, nI_m1, in_t, ba0, ba1, Nat.one_ne_zero, Nat.reduceEqDiff, Nat.reduceLeDiff, Nat.add_eq_zero_iff, xk243 hX, y256 hR w 41 (59 + 48 * w) (by omega) (by omega), hn, xr243_15 hX, y255 w (42 + n) (60 + 48 * w + n) (by omega), xk245 hX, xk243 hX1, xr243_15 hX1, y255 w (45 + n) (63 + 48 * w + n) (by omega), xk245 hX1, xk243 hX2, xr243_15 hX2, y255 w 41 (59 + 48 * w) (by omega), xk245 hX2, h59]
  · rw [gi_si, gi_si, gi_si, rs hR]
    unfold srcU
    by_cases e : k = 59 + 48 * w
    · rw [if_pos ⟨rfl, e⟩, if_pos e]
    · rw [if_neg (fun z => e z.2), if_neg e]
      by_cases e2 : k = 63 + 48 * w + n
      · rw [if_pos ⟨rfl, e2⟩, if_neg (show ¬ k = 60 + 48 * w + n by omega), if_pos e2]
      · rw [if_neg (fun z => e2 z.2), if_neg e2]
        by_cases e3 : k = 60 + 48 * w + n
        · rw [if_pos ⟨rfl, e3⟩, if_pos e3]
        · rw [if_neg (fun z => e3 z.2), if_neg e3]
end P83
