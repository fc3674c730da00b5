/-! shares: the class -/
def sShare (s : Nat → Int32) (q : Nat → Int64) (b : Nat → Nat) (n : Nat) (l : List (Nat × Nat)) (i : Nat) : Er ⊕ (Nat × List (Nat × Nat)) := if Kd b n i = 2 then (if pnm_ s q (Vl b n i) < cN s 0 then (if (l.any fun x => decide (x.1 = pnm_ s q (Vl b n i))) = true then err_ b n 4 i else if l.length = 4 then err_ b n 6 i else eb (sNum b n 1 100 (i + 1)) fun x => .inr (x.1, l ++ [(pnm_ s q (Vl b n i), x.2)])) else err_ b n 3 i) else err_ b n 1 i
def sShl (s : Nat → Int32) (q : Nat → Int64) (b : Nat → Nat) (n : Nat) : Nat → List (Nat × Nat) → Nat → Er ⊕ (Nat × List (Nat × Nat))
  | 0, l, i => .inr (i, l)
  | f + 1, l, i => eb (sShare s q b n l i) fun x => if Kd b n x.1 = 2 then sShl s q b n f x.2 x.1 else .inr x
def sShs (s : Nat → Int32) (q : Nat → Int64) (b : Nat → Nat) (n i : Nat) : Er ⊕ (Nat × List (Nat × Nat)) := eb (sTake b n 22 i) fun x => sShl s q b n 5 [] x.1
def lsum (l : List (Nat × Nat)) : Nat := (l.map fun x => x.2).sum
theorem any_idx {α : Type} (p : α → Bool) (l : List α) : (l.any p = true) ↔ ∃ (j : Nat) (x : α), l[j]? = some x ∧ p x = true := by
  rw [List.any_eq_true]
  constructor
  · rintro ⟨x, h1, h2⟩
    obtain ⟨j, hj⟩ := List.mem_iff_getElem?.mp h1
    exact ⟨j, x, hj, h2⟩
  · rintro ⟨j, x, h1, h2⟩
    exact ⟨x, List.mem_of_getElem? h1, h2⟩
/-- the class's list of shares -/
def CH (m : am_M) (N : Nat) (l : List (Nat × Nat)) : Prop := gi_ m (N + 8) 2 = nI l.length ∧ l.length ≤ 4 ∧ ∀ j x, l[j]? = some x → x.1 < 10 ∧ x.2 ≤ 100 ∧ gi_ m (N + 9) (j * 2) = nI x.1 ∧ gi_ m (N + 9) (j * 2 + 1) = nI x.2
def PS (N a k : Nat) : Prop := (a = N + 2 ∧ 5 ≤ k ∧ k ≤ 8) ∨ a = N + 9 ∨ (a = N + 8 ∧ k = 2)
theorem XF.a9 {N a k : Nat} (h : a = N + 9) : XF N a k := ⟨by omega, Or.inr (Or.inr (Or.inr (Or.inr (Or.inr (Or.inr (Or.inl (by omega)))))))⟩
theorem XF.a8 {N a k : Nat} (h : a = N + 8) (h2 : 2 ≤ k) : XF N a k := ⟨by omega, Or.inr (Or.inr (Or.inr (Or.inr (Or.inr (Or.inr (Or.inr (Or.inr (Or.inr (Or.inr (Or.inr (Or.inr (Or.inr (Or.inl (by omega))))))))))))))⟩
theorem PS.x {N a k : Nat} (h : PS N a k) : XF N a k := by
  rcases h with h | h | h
  · exact XF.a2 h.1 (by omega)
  · exact XF.a9 h
  · exact XF.a8 h.1 (by omega)
/-- an error of the class -/
def CE (N : Nat) (m : am_M) (P : Nat → Nat → Prop) (e : Er) (r : Option am_R) : Prop := ∃ m', r = some (.inr 1, th_ m') ∧ Fr P m m' ∧ gi_ m' (N + 2) 6 = nI e.1 ∧ gi_ m' (N + 2) 7 = nI e.2.1 ∧ gi_ m' (N + 2) 8 = nI e.2.2
theorem CE.mono {N : Nat} {m m1 : am_M} {P P' : Nat → Nat → Prop} {e : Er} {r : Option am_R} (h : CE N m1 P e r) (h1 : Fr P' m m1) (hp : ∀ a k, P a k → P' a k) : CE N m P' e r := by
  obtain ⟨m', g1, g2, g3⟩ := h
  exact ⟨m', g1, h1.trans (g2.mono hp), g3⟩
/-- how a step of the class ends that does more -/
def CW {α : Type} (N : Nat) (m : am_M) (P : Nat → Nat → Prop) (g : α → Option Value) (Q : Nat → α → am_M → Prop) (s : Er ⊕ (Nat × α)) (r : Option am_R) : Prop := match s with
  | .inl e => CE N m P e r
  | .inr x => ∃ m', r = some (.inl (g x.2), m') ∧ Fr P m m' ∧ Q x.1 x.2 m'
section I80
variable {sa sv d N o : Nat} {m : am_M} {b : Nat → Nat} {n T i : Nat} {s : Nat → Int32} {q : Nat → Int64} {l : List (Nat × Nat)}
theorem CT.frS {P : Nat → Nat → Prop} {m' : am_M} (h : CT m N b n T i) (hf : Fr P m m') (hp : ∀ a k, P a k → a = N + 9 ∨ (a = N + 8 ∧ k = 2)) : CT m' N b n T i := h.fr hf (fun a k z => by
  have := hp a k z
  refine ⟨?_, by omega, by omega, by omega, by omega⟩
  rcases this with y | ⟨y, y2⟩
  · exact XF.a9 y
  · exact XF.a8 y (by omega))
theorem SR.frS {P : Nat → Nat → Prop} {m' : am_M} (h : SR m N o s q) (hf : Fr P m m') (hp : ∀ a k, P a k → PS N a k) : SR m' N o s q := h.fr hf (fun a k z => by have := hp a k z; unfold PS at this; omega)
theorem CH.stp (h : CH m N l) (j : Nat) : CH (stp m N j) N l := by
  unfold CH
  obtain ⟨h1, h2, h3⟩ := h
  refine ⟨?_, h2, fun j x hx => ?_⟩
  · show gi_ (si_ m (N + 2) 5 _) _ _ = _
    rw [gi_si, if_neg (by omega)]; exact h1
  · obtain ⟨a1, a2, a3, a4⟩ := h3 j x hx
    refine ⟨a1, a2, ?_, ?_⟩
    · show gi_ (si_ m (N + 2) 5 _) _ _ = _
      rw [gi_si, if_neg (by omega)]; exact a3
    · show gi_ (si_ m (N + 2) 5 _) _ _ = _
      rw [gi_si, if_neg (by omega)]; exact a4
theorem x124 (h : CT m N b n T i) (hS : SR m N o s q) (hC : WC s) (hH : CH m N l) : CW N m (PS N) (fun _ => none) (fun j l' m' => CT m' N b n T j ∧ CH m' N l' ∧ i < j) (sShare s q b n l i) (am_ca sa sv (d + 3) 124 [.ref (N + 7)] m) := by
  obtain ⟨r2, r3, hO, hV, ho1, ho2⟩ := hS
  obtain ⟨t1, t2, t3⟩ := hH
  have hX := h.1
  have hnp := isN_lt (wc_np hC) (by decide)
  have e1 := x146 (sa := sa) (sv := sv) (d := d) h
  have hz : (o + 1 = 0) = False := eq_false (by omega)
  have cf : ∀ c, CW N m (PS N) (fun _ => none) (fun j l' m' => CT m' N b n T j ∧ CH m' N l' ∧ i < j) (err_ b n c i) (some (.inr 1, th_ (fl2 m N c (St b n i)))) := fun c => by
    obtain ⟨m', g1, g2, g3⟩ := CO.fail (α := Unit) (g := fun _ => none) h c
    exact ⟨m', g1, g2.mono fun a k z => Or.inl z, g3⟩
  rw [c124, b124_0]
  simp (disch := omega) only [gq_true, gb_true, gb_false, true_and, and_true, eq_self, not_false_eq_true, not_true_eq_false, true_or, or_true, false_or, or_false, false_and, and_false, c0_v, ci_v, cl_v, cf_v, pk_mul, nI_add, nI_clamp, nI_lt0, nI_0le, nI_eq0, nI_lt0r, nI_ltE, nI_leE, nI_eqE, nI_m1, in_t, ba0, ba1, Nat.one_ne_zero, Nat.reduceEqDiff, Nat.reduceLeDiff, Nat.add_eq_zero_iff, xk7 h.1, xr7_0 h.1, xk2 h.1, r3, hz]
  unfold sShare
  unfold sName at e1
  by_cases e : Kd b n i = 2
  · rw [if_pos e] at e1 ⊢
    have e1' : am_ca sa sv (d + 2) 146 [.ref (N + 2)] m = some (.inl (some (.long (Vl b n i))), stp m N i) := e1
    rw [stp_id h] at e1'
    rw [e1']
    simp (disch := omega) only [gq_true, gb_true, gb_false, true_and, and_true, eq_self, not_false_eq_true, not_true_eq_false, true_or, or_true, false_or, or_false, false_and, and_false, c0_v, ci_v, cl_v, cf_v, pk_mul, nI_add, nI_clamp, nI_lt0, nI_0le, nI_eq0, nI_lt0r, nI_ltE, nI_leE, nI_eqE, nI_m1, in_t, ba0, ba1, Nat.one_ne_zero, Nat.reduceEqDiff, Nat.reduceLeDiff, Nat.add_eq_zero_iff, xk7 h.1, r3, hz, ok1 hO, x5 hO hV hC, xr7_0 h.1, xk2 h.1]
    rw [ix_m1 (by omega)]
    by_cases t : pnm_ s q (Vl b n i) < cN s 0
    · rw [if_pos t, gb_neg (by omega), ix_s t]
      generalize pnm_ s q (Vl b n i) = p at *
      have tb : ∀ k c, k < 4 → c < 2 → am_ca sa sv (d + 2) 127 [.ref (N + 8), .int (nI k), .int (nI c)] m = some (.inl (some (.int (gi_ m (N + 9) (k * 2 + c)))), m) := fun k c h1 h2 => tb_at (xt8 hX) (by decide) k c (by omega)
      have loop : ∀ j k, k + j = l.length → (∀ t x, t < k → l[t]? = some x → ¬ x.1 = p) → r124 sa sv (d + 2) 30 [some (.ref (N + 7)), some (.int (nI p)), some (.int (nI k))] [] m = if (l.any fun x => decide (x.1 = p)) = true then some (.inr 1, th_ (fl2 m N 4 (St b n i))) else if l.length = 4 then some (.inr 1, th_ (fl2 m N 6 (St b n i))) else r124 sa sv (d + 2) 88 [some (.ref (N + 7)), some (.int (nI p)), some (.int (nI l.length))] [] m := by
        intro j
        induction j with
        | zero =>
          intro k hk hno
          obtain rfl : k = l.length := by omega
          have hany : ¬ (l.any fun x => decide (x.1 = p)) = true := by
            rw [any_idx]
            rintro ⟨t, x, h1, h2⟩
            exact hno t x (List.getElem?_eq_some_iff.mp h1).1 h1 (of_decide_eq_true h2)
          rw [if_neg hany, b124_30]
          simp (disch := omega) only [gq_true, gb_true, gb_false, true_and, and_true, eq_self, not_false_eq_true, not_true_eq_false, true_or, or_true, false_or, or_false, false_and, and_false, c0_v, ci_v, cl_v, cf_v, pk_mul, nI_add, nI_clamp, nI_lt0, nI_0le, nI_eq0, nI_lt0r, nI_ltE, nI_leE, nI_eqE, nI_m1, in_t, ba0, ba1, Nat.one_ne_zero, Nat.reduceEqDiff, Nat.reduceLeDiff, Nat.add_eq_zero_iff, xk7 hX, xr7_1 hX, xk8 hX, t1, Nat.le_refl, xr7_0 hX, xk2 hX]
          by_cases e4 : l.length = 4
          · rw [if_pos e4, gb_neg (by omega), x149 h 6, c0_x, xg_v]
          · rw [if_neg e4, gb_pos (by omega)]
        | succ j ih =>
          intro k hk hno
          have hx : l[k]? = some l[k] := List.getElem?_eq_getElem (by omega)
          generalize l[k] = x at hx
          obtain ⟨a1, a2, a3, a4⟩ := t3 k x hx
          rw [b124_30]
          simp (disch := omega) only [gq_true, gb_true, gb_false, true_and, and_true, eq_self, not_false_eq_true, not_true_eq_false, true_or, or_true, false_or, or_false, false_and, and_false, c0_v, ci_v, cl_v, cf_v, pk_mul, nI_add, nI_clamp, nI_lt0, nI_0le, nI_eq0, nI_lt0r, nI_ltE, nI_leE, nI_eqE, nI_m1, in_t, ba0, ba1, Nat.one_ne_zero, Nat.reduceEqDiff, Nat.reduceLeDiff, Nat.add_eq_zero_iff, xk7 hX, xr7_1 hX, xk8 hX, t1, eq_false (show ¬ l.length ≤ k by omega), tb k 0 (by omega) (by omega), show k * 2 + 0 = k * 2 from rfl, a3, xr7_0 hX, xk2 hX]
          by_cases e5 : x.1 = p
          · have hany : (l.any fun x => decide (x.1 = p)) = true := (any_idx _ _).mpr ⟨k, x, hx, decide_eq_true e5⟩
            rw [gb_pos e5, x149 h 4, c0_x, xg_v, if_pos hany]
          · rw [gb_neg e5]
            exact ih (k + 1) (by omega) (fun t y ht hy => by
              by_cases e6 : t = k
              · subst e6
                rw [hx] at hy
                rw [← Option.some.inj hy]; exact e5
              · exact hno t y (by omega) hy)
      rw [loop l.length 0 (by omega) (fun t x ht => absurd ht (by omega))]
      by_cases hany : (l.any fun x => decide (x.1 = p)) = true
      · rw [if_pos hany, if_pos hany]; exact cf 4
      · rw [if_neg hany, if_neg hany]
        by_cases e4 : l.length = 4
        · rw [if_pos e4, if_pos e4]; exact cf 6
        · rw [if_neg e4, if_neg e4]
          have hlt := h.lt (show ¬ Kd b n i = 0 by omega)
          have hc1 := h.set (show i + 1 ≤ T by omega)
          have hF1 : Fr (PS N) m (stp m N (i + 1)) := (Fr.refl _ _).si (Or.inl ⟨rfl, by omega, by omega⟩)
          have g1 : gi_ (stp m N (i + 1)) (N + 8) 2 = nI l.length := by
            show gi_ (si_ m _ _ _) _ _ = _
            rw [gi_si, if_neg (by omega)]; exact t1
          have p1 := x128 (sa := sa) (sv := sv) (d := d + 1) (xt8 hc1.1) (by decide) l.length 0 (nI p) (by omega)
          rw [show N + 8 + 1 = N + 9 from rfl, show l.length * 2 + 0 = l.length * 2 from rfl] at p1
          have hF2 : Fr (fun a k => a = N + 9 ∨ (a = N + 8 ∧ k = 2)) (stp m N (i + 1)) (si_ (stp m N (i + 1)) (N + 9) (l.length * 2) (nI p)) := (Fr.refl _ _).si (Or.inl rfl)
          have hc2 := hc1.frS hF2 (fun _ _ z => z)
          have g2 : gi_ (si_ (stp m N (i + 1)) (N + 9) (l.length * 2) (nI p)) (N + 8) 2 = nI l.length := by rw [gi_si, if_neg (by omega)]; exact g1
          have hFa : Fr (PS N) m (si_ (stp m N (i + 1)) (N + 9) (l.length * 2) (nI p)) := hF1.trans (hF2.mono fun a k z => Or.inr z)
          have v9 : gi_ (si_ (stp m N (i + 1)) (N + 9) (l.length * 2) (nI p)) (N + 9) (l.length * 2) = nI p := by rw [gi_si, if_pos ⟨rfl, rfl⟩]
          have o9 : ∀ k, k < l.length * 2 → gi_ (si_ (stp m N (i + 1)) (N + 9) (l.length * 2) (nI p)) (N + 9) k = gi_ m (N + 9) k := fun k hk => by
            rw [gi_si, if_neg (by omega)]
            show gi_ (si_ m _ _ _) _ _ = _
            rw [gi_si, if_neg (by omega)]
          have run1 : r124 sa sv (d + 2) 88 [some (.ref (N + 7)), some (.int (nI p)), some (.int (nI l.length))] [] m = am_ci (am_ca sa sv (d + 2) 145 [.ref (N + 2), .int (nI 1), .int (nI 100)] (si_ (stp m N (i + 1)) (N + 9) (l.length * 2) (nI p))) (fun v13 m12 => gq_ (gk_ m12 (N + 8) = (1, 8)) (am_c0 (am_ca sa sv (d + 2) 128 [.ref (N + 8), .int (nI l.length), .int (nI 1), .int v13] m12) (fun m14 => gq_ (gk_ m14 (N + 7) = (1, 7) ∧ ¬ gr_ m14 (N + 7) 1 = 0) (gq_ (gk_ m14 (gr_ m14 (N + 7) 1) = (1, 8)) (gq_ (gk_ m14 (gr_ m14 (N + 7) 1) = (1, 8)) (some (.inl none, si_ m14 (gr_ m14 (N + 7) 1) 2 (gi_ m14 (gr_ m14 (N + 7) 1) 2 + nI 1)))))) am_xg)) am_xg := by
            rw [b124_88]
            have s1 : am_ca sa sv (d + 2) 143 [.ref (N + 2)] m = some (.inl none, stp m N (i + 1)) := x143 h hlt
            simp (disch := omega) only [gq_true, gb_true, gb_false, true_and, and_true, eq_self, not_false_eq_true, not_true_eq_false, true_or, or_true, false_or, or_false, false_and, and_false, c0_v, ci_v, cl_v, cf_v, pk_mul, nI_add, nI_clamp, nI_lt0, nI_0le, nI_eq0, nI_lt0r, nI_ltE, nI_leE, nI_eqE, nI_m1, in_t, ba0, ba1, Nat.one_ne_zero, Nat.reduceEqDiff, Nat.reduceLeDiff, Nat.add_eq_zero_iff, xk7 hX, xr7_0 hX, xk2 hX, s1, xk7 hc1.1, xr7_1 hc1.1, xk8 hc1.1, g1, p1, xk7 hc2.1, xr7_1 hc2.1, xk8 hc2.1, xr7_0 hc2.1, xk2 hc2.1, g2]
          generalize si_ (stp m N (i + 1)) (N + 9) (l.length * 2) (nI p) = m2 at *
          have e45 := x145 (sa := sa) (sv := sv) (d := d) hc2 1 100 (by decide) (by decide)
          rw [run1]
          cases hn : sNum b n 1 100 (i + 1) with
          | inl er =>
            rw [hn] at e45
            obtain ⟨m', q1, q2, q3⟩ := e45
            exact ⟨m', by rw [q1, ci_x, xg_v], hFa.trans (q2.mono fun a k z => Or.inl z), q3⟩
          | inr x =>
            rw [hn] at e45
            have e46 : am_ca sa sv (d + 2) 145 [.ref (N + 2), .int (nI 1), .int (nI 100)] m2 = some (.inl (some (.int (nI x.2))), stp m2 N x.1) := e45
            have hx : x.1 = i + 2 ∧ x.2 ≤ 100 ∧ i + 1 < T := by
              unfold sNum at hn
              split at hn
              · rename_i k3
                split at hn
                · rename_i k4
                  have hx2 := (Sum.inr.inj hn).symm
                  rw [hx2]
                  exact ⟨rfl, k4.2, hc2.lt (by omega)⟩
                · cases hn
              · cases hn
            obtain ⟨hx1, hx2, hx3⟩ := hx
            have hc3 := hc2.set (show x.1 ≤ T by omega)
            have w3 : gi_ (stp m2 N x.1) (N + 8) 2 = nI l.length := by
              show gi_ (si_ m2 _ _ _) _ _ = _
              rw [gi_si, if_neg (by omega)]; exact g2
            have p2 := x128 (sa := sa) (sv := sv) (d := d + 1) (xt8 hc3.1) (by decide) l.length 1 (nI x.2) (by omega)
            rw [show N + 8 + 1 = N + 9 from rfl] at p2
            have hF4 : Fr (fun a k => a = N + 9 ∨ (a = N + 8 ∧ k = 2)) (stp m2 N x.1) (si_ (stp m2 N x.1) (N + 9) (l.length * 2 + 1) (nI x.2)) := (Fr.refl _ _).si (Or.inl rfl)
            have hc4 := hc3.frS hF4 (fun _ _ z => z)
            have w4 : gi_ (si_ (stp m2 N x.1) (N + 9) (l.length * 2 + 1) (nI x.2)) (N + 8) 2 = nI l.length := by rw [gi_si, if_neg (by omega)]; exact w3
            have o4 : ∀ k, k < l.length * 2 + 1 → gi_ (si_ (stp m2 N x.1) (N + 9) (l.length * 2 + 1) (nI x.2)) (N + 9) k = gi_ m2 (N + 9) k := fun k hk => by
              rw [gi_si, if_neg (by omega)]
              show gi_ (si_ m2 _ _ _) _ _ = _
              rw [gi_si, if_neg (by omega)]
            have v4 : gi_ (si_ (stp m2 N x.1) (N + 9) (l.length * 2 + 1) (nI x.2)) (N + 9) (l.length * 2 + 1) = nI x.2 := by rw [gi_si, if_pos ⟨rfl, rfl⟩]
            have hF24 : Fr (PS N) m2 (si_ (stp m2 N x.1) (N + 9) (l.length * 2 + 1) (nI x.2)) := Fr.trans (P := PS N) ((Fr.refl _ _).si (Or.inl ⟨rfl, by omega, by omega⟩)) (hF4.mono fun a k z => Or.inr z)
            rw [e46, ci_v]
            simp (disch := omega) only [gq_true, gb_true, gb_false, true_and, and_true, eq_self, not_false_eq_true, not_true_eq_false, true_or, or_true, false_or, or_false, false_and, and_false, c0_v, ci_v, cl_v, cf_v, pk_mul, nI_add, nI_clamp, nI_lt0, nI_0le, nI_eq0, nI_lt0r, nI_ltE, nI_leE, nI_eqE, nI_m1, in_t, ba0, ba1, Nat.one_ne_zero, Nat.reduceEqDiff, Nat.reduceLeDiff, Nat.add_eq_zero_iff, xk8 hc3.1, p2]
            generalize si_ (stp m2 N x.1) (N + 9) (l.length * 2 + 1) (nI x.2) = m4 at *
            have hF5 : Fr (fun a k => a = N + 9 ∨ (a = N + 8 ∧ k = 2)) m4 (si_ m4 (N + 8) 2 (nI (l.length + 1))) := (Fr.refl _ _).si (Or.inr ⟨rfl, rfl⟩)
            refine ⟨si_ m4 (N + 8) 2 (nI (l.length + 1)), ?_, (hFa.trans hF24).trans (hF5.mono fun a k z => Or.inr z), hc4.frS hF5 (fun _ _ z => z), ⟨?_, ?_, fun j y hy => ?_⟩, by show i < x.1; omega⟩
            · simp (disch := omega) only [gq_true, gb_true, gb_false, true_and, and_true, eq_self, not_false_eq_true, not_true_eq_false, true_or, or_true, false_or, or_false, false_and, and_false, c0_v, ci_v, cl_v, cf_v, pk_mul, nI_add, nI_clamp, nI_lt0, nI_0le, nI_eq0, nI_lt0r, nI_ltE, nI_leE, nI_eqE, nI_m1, in_t, ba0, ba1, Nat.one_ne_zero, Nat.reduceEqDiff, Nat.reduceLeDiff, Nat.add_eq_zero_iff, xk7 hc4.1, xr7_1 hc4.1, xk8 hc4.1, w4]
            · show gi_ (si_ m4 (N + 8) 2 (nI (l.length + 1))) (N + 8) 2 = nI (l ++ [(p, x.2)]).length
              rw [gi_si, if_pos ⟨rfl, rfl⟩, List.length_append]; rfl
            · show (l ++ [(p, x.2)]).length ≤ 4
              rw [List.length_append]
              show l.length + 1 ≤ 4
              omega
            · have hy' : (l ++ [(p, x.2)])[j]? = some y := hy
              have hjl : j < l.length + 1 := by
                have := (List.getElem?_eq_some_iff.mp hy').1
                rw [List.length_append] at this
                exact this
              rw [gi_si, if_neg (by omega), gi_si, if_neg (by omega)]
              by_cases e9 : j < l.length
              · rw [List.getElem?_append_left e9] at hy'
                obtain ⟨a1, a2, a3, a4⟩ := t3 j y hy'
                exact ⟨a1, a2, by rw [o4 _ (by omega), o9 _ (by omega)]; exact a3, by rw [o4 _ (by omega), o9 _ (by omega)]; exact a4⟩
              · obtain rfl : j = l.length := by omega
                rw [List.getElem?_append_right (Nat.le_refl _), Nat.sub_self] at hy'
                have hy2 : (p, x.2) = y := Option.some.inj hy'
                subst hy2
                exact ⟨by show p < 10; omega, hx2, by rw [o4 _ (by omega)]; exact v9, v4⟩
    · rw [if_neg t, gb_pos (by omega), x149 h 3, c0_x, xg_v]
      exact cf 3
  · rw [if_neg e] at e1 ⊢
    obtain ⟨m', g1, g2, g3⟩ := e1
    exact ⟨m', by rw [g1, cl_x, xg_v], g2.mono fun a k z => Or.inl z, g3⟩
end I80
