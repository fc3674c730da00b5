/-! a work, a cover are read: the reference -/
section R89
variable {sa sv d N T n i B : Nat} {m : am_M} {b : Nat → Nat} {s s' : Nat → Int32} {q q' : Nat → Int64} {σ : Er ⊕ Nat} {L : List (Nat × Nat)}
theorem gd_eb {α : Type} {f : Nat → Er ⊕ (Nat × α)} (h : gd_s (pst (eb σ f)) = true) : gd_s σ = true := by
  cases σ with
  | inl e => cases h
  | inr j => rfl
theorem gd_pst {α : Type} {z : Er ⊕ (Nat × α)} (h : gd_s (pst z) = true) : ∃ x, z = .inr x := by
  cases z with
  | inl e => cases h
  | inr j => exact ⟨_, rfl⟩
theorem splU_1 (hL : L.length ≤ 4) : splU (wk1 s) (cN s 1) 0 0 L 1 = nI (cN s 1 + 1) := by
  unfold splU; rw [if_neg (by omega), if_neg (by omega), if_neg (by omega), if_neg (by omega), if_neg (by omega)]; exact if_pos rfl
theorem splU_59 (hL : L.length ≤ 4) : splU (wk1 s) (cN s 1) 0 0 L (59 + 48 * cN s 1) = s (59 + 48 * cN s 1) := by
  unfold splU; rw [if_neg (by omega), if_neg (by omega), if_neg (by omega), if_neg (by omega), if_neg (by omega)]
  exact if_neg (by omega)
theorem y272_80g (h : RQ m N b n σ) (hR : RS m N s q) (hH : SHr m N L) (hC : WC s) (hW : WW s) (v : Int64) (w : Nat) (hw : w ≤ 1) (x1 l4 l5 : Int32) (o6 : Option Value) (hn : gd_s (pst (eb σ (sFit b n w))) = true → cN s 1 < 12) : ∃ m1, Fr (RWr N) m m1 ∧ RQ m1 N b n (pst (eb σ (sFit b n w))) ∧ if gd_s (pst (eb σ (sFit b n w))) = true then r272 sa sv (d + 3) 80 [some (.ref (N + 243)), some (.int x1), some (.long v), none, some (.int l4), some (.int l5), o6] [.int (nI w), .ref (N + 243)] m = gb_ (x1 = 0) (some (.inl none, m1)) (am_c0 (am_ca sa sv (d + 3) 270 [.ref (N + 243), .int (nI (cN s 1)), .int l4, .int l5] m1) (fun m23 => some (.inl none, m23)) am_xg) ∧ RS m1 N (splU (wk1 s) (cN s 1) 0 0 L) (wkQ s q v) else r272 sa sv (d + 3) 80 [some (.ref (N + 243)), some (.int x1), some (.long v), none, some (.int l4), some (.int l5), o6] [.int (nI w), .ref (N + 243)] m = some (.inl none, m1) := by
  obtain ⟨m1, g1, g2, g3⟩ := y268 (sa := sa) (sv := sv) (d := d) h w (by omega)
  have e1 := y235 (sa := sa) (sv := sv) (d := d + 2) g3
  have hR1 := hR.h g2
  have hH1 := hH.h g2
  generalize pst (eb σ (sFit b n w)) = τ at *
  have hF1 : Fr (RWr N) m m1 := g2.mono fun _ _ z => Or.inl z.sh
  have e0 : am_ca sa sv (d + 3) 223 [.int (nI w)] m = some (.inl (some (.int (nI w))), m) := by
    rcases (by omega : w = 0 ∨ w = 1) with rfl | rfl
    · exact y223_0
    · exact y223_1
  cases hg : gd_s τ with
  | false =>
    rw [hg, tr_f] at e1
    refine ⟨m1, hF1, g3, ?_⟩
    rw [if_neg (by decide), b272_80]
    simp (disch := omega) only [gq_true, gb_true, gb_false, true_and, and_true, eq_self, not_false_eq_true, not_true_eq_false, true_or, or_true, false_or, or_false, false_and, and_false, c0_v, ci_v, cl_v, cf_v, pk_mul, nI_add, nI_clamp, nI_lt0, nI_0le, nI_eq0, nI_lt0r, nI_ltE, nI_leE, nI_eqE, nI_m1, in_t, ba0, ba1, Nat.one_ne_zero, Nat.reduceEqDiff, Nat.reduceLeDiff, Nat.add_eq_zero_iff, xk243 h.1, e0, g1, xk243 g3.1, e1, nI_0]
  | true =>
    rw [hg, tr_t] at e1
    have h12 := hn hg
    have nw : gi_ m1 (N + 245) 1 = nI (cN s 1) := (rs hR1 1).trans ((wc_nw hC).c (by decide)).1
    have hF : Fr (fun a _ => a = N + 245 ∨ a = N + 249) m1 (si_ (sl_ m1 (N + 249) (472 + cN s 1) v) (N + 245) 1 (nI (cN s 1 + 1))) := ((Fr.refl _ _).sl (Or.inr rfl)).si (Or.inl rfl)
    have h2 : RQ (si_ (sl_ m1 (N + 249) (472 + cN s 1) v) (N + 245) 1 (nI (cN s 1 + 1))) N b n τ := g3.fr hF (fun a k z => ⟨XF.hi (by omega), by omega, fun _ => by omega⟩)
    have hR2 : RS (si_ (sl_ m1 (N + 249) (472 + cN s 1) v) (N + 245) 1 (nI (cN s 1 + 1))) N (wk1 s) (wkQ s q v) := by
      refine ⟨hR1.1.frg hF (fun a k z => XF.hi (by omega)), funext fun k => ?_, funext fun k => ?_⟩
      · rw [gi_si, gi_sl]
        unfold wk1
        by_cases e : k = 1
        · rw [if_pos ⟨rfl, e⟩, if_pos e]
        · rw [if_neg (fun z => e z.2), if_neg e]; exact rs hR1 k
      · rw [gl_si, gl_sl]
        unfold wkQ
        by_cases e : k = 472 + cN s 1
        · rw [if_pos ⟨rfl, e⟩, if_pos e]
        · rw [if_neg (fun z => e z.2), if_neg e]; exact rq hR1 k
    have hH2 : SHr (si_ (sl_ m1 (N + 249) (472 + cN s 1) v) (N + 245) 1 (nI (cN s 1 + 1))) N L := by
      obtain ⟨t1, t2, t3⟩ := hH1
      have fr : ∀ a k, ¬ a = N + 245 → gi_ (si_ (sl_ m1 (N + 249) (472 + cN s 1) v) (N + 245) 1 (nI (cN s 1 + 1))) a k = gi_ m1 a k := fun a k z => by rw [gi_si, if_neg (fun y => z y.1), gi_sl]
      refine ⟨(fr _ _ (by omega)).trans t1, t2, fun j x hx => ?_⟩
      obtain ⟨a1, a2, a3, a4⟩ := t3 j x hx
      exact ⟨a1, a2, (fr _ _ (by omega)).trans a3, (fr _ _ (by omega)).trans a4⟩
    have z18 : wk1 s (18 + 48 * cN s 1) = nI 0 := (if_neg (by omega)).trans (ww_z hW _ (Nat.le_refl _) h12).1
    obtain ⟨m3, k1, k2, k3⟩ := y269 (sa := sa) (sv := sv) (d := d + 1) hR2 hH2 (cN s 1) 0 0 h12 (by decide) z18
    have h3 : RQ m3 N b n τ := h2.fr k2 (fun a k z => ⟨XF.hi (by omega), by omega, fun _ => by omega⟩)
    refine ⟨m3, hF1.trans ((hF.mono fun _ _ z => Or.inr z).trans (k2.mono fun _ _ z => Or.inr (Or.inl z))), h3, ?_⟩
    rw [if_pos rfl]
    refine ⟨?_, k3⟩
    rw [b272_80]
    simp (disch := omega) only [gq_true, gb_true, gb_false, true_and, and_true, eq_self, not_false_eq_true, not_true_eq_false, true_or, or_true, false_or, or_false, false_and, and_false, c0_v, ci_v, cl_v, cf_v, pk_mul, nI_add, nI_clamp, nI_lt0, nI_0le, nI_eq0, nI_lt0r, nI_ltE, nI_leE, nI_eqE, nI_m1, in_t, ba0, ba1, Nat.one_ne_zero, Nat.reduceEqDiff, Nat.reduceLeDiff, Nat.add_eq_zero_iff, xk243 h.1, e0, g1, xk243 g3.1, e1, xr243_19 g3.1, xr243_15 g3.1, xk245 g3.1, xk249 g3.1, nw, xk243 h2.1, k1, xk243 h3.1]
theorem y272w (h : RQ m N b n (.inr i)) (hR : RS m N s q) (hG : WG B s q) (hk : ¬ Kd b n i = 1) : ∃ m', am_ca sa sv (d + 6) 272 [.ref (N + 243), .int (nI 0)] m = some (.inl none, m') ∧ Fr (RWr N) m m' ∧ RT m' N b n (sWK s q b n i) := by
  have hC := hG.1.1
  have hN := hG.1.2.2.2.2.2.2.2
  have hnw := isN_lt (wc_nw hC) (by decide)
  have nw : gi_ m (N + 245) 1 = nI (cN s 1) := (rs hR 1).trans ((wc_nw hC).c (by decide)).1
  obtain ⟨m1, g1, g2, g3⟩ := y261 (sa := sa) (sv := sv) (d := d + 2) h (fun j e => by rw [← Sum.inr.inj e]; exact hk) (cN s 1) 12 (by omega) (by decide)
  have hR1 := hR.h g2
  generalize e1 : pst (eb (.inr i) (sFst b n (cN s 1) 12)) = σ1 at *
  have e1' : pst (sFst b n (cN s 1) 12 i) = σ1 := e1
  obtain ⟨m2, v, k1, k2, k3, k4⟩ := y262 (sa := sa) (sv := sv) (d := d + 2) g3 hR1 hC hN
  have hR2 := hR1.h k2
  generalize e2 : pst (eb σ1 (sNew s q b n)) = σ2 at *
  obtain ⟨m3, L, l1, l2, l3, l4, l5⟩ := y266 (sa := sa) (sv := sv) (d := d) k3 hR2 hC hN
  have hR3 := hR2.sh l2
  generalize e3 : pst (eb σ2 (sShs s q b n)) = σ3 at *
  have hb : lsum L ≤ 100 * L.length := lsum_b fun j x hx => (l4.2.2 j x hx).2.1
  have hl4 := l4.2.1
  have hF3 : Fr (RWr N) m m3 := ((g2.trans k2).mono fun _ _ z => Or.inl z.sh).trans (l2.mono fun _ _ z => Or.inl z)
  obtain ⟨m4, n1, n2, n3⟩ := y272_80g (sa := sa) (sv := sv) (d := d + 2) l3 hR3 l4 hC hG.1.2.1 v (if lsum L = 100 then 0 else 1) (by split <;> decide) (nI 0) (-1) (nI 0) none (fun z => by
    have a1 : gd_s σ1 = true := by
      have a3 := gd_eb z
      rw [← e3] at a3
      have a2 := gd_eb a3
      rw [← e2] at a2
      exact gd_eb a2
    rw [← e1'] at a1
    obtain ⟨x1, z1⟩ := gd_pst a1
    have := (sFst_i z1).1
    omega)
  generalize e4 : pst (eb σ3 (sFit b n (if lsum L = 100 then 0 else 1))) = σ4 at *
  have run : am_ca sa sv (d + 6) 272 [.ref (N + 243), .int (nI 0)] m = some (.inl none, m4) := by
    rw [c272, b272_0]
    simp (disch := omega) only [gq_true, gb_true, gb_false, true_and, and_true, eq_self, not_false_eq_true, not_true_eq_false, true_or, or_true, false_or, or_false, false_and, and_false, c0_v, ci_v, cl_v, cf_v, pk_mul, nI_add, nI_clamp, nI_lt0, nI_0le, nI_eq0, nI_lt0r, nI_ltE, nI_leE, nI_eqE, nI_m1, in_t, ba0, ba1, Nat.one_ne_zero, Nat.reduceEqDiff, Nat.reduceLeDiff, Nat.add_eq_zero_iff, xk243 h.1, xr243_15 h.1, xk245 h.1, nw, g1, xk243 g3.1, k1, xk243 k3.1]
    rw [b272_42]
    simp (disch := omega) only [gq_true, gb_true, gb_false, true_and, and_true, eq_self, not_false_eq_true, not_true_eq_false, true_or, or_true, false_or, or_false, false_and, and_false, c0_v, ci_v, cl_v, cf_v, pk_mul, nI_add, nI_clamp, nI_lt0, nI_0le, nI_eq0, nI_lt0r, nI_ltE, nI_leE, nI_eqE, nI_m1, in_t, ba0, ba1, Nat.one_ne_zero, Nat.reduceEqDiff, Nat.reduceLeDiff, Nat.add_eq_zero_iff, xk243 k3.1, l1, xk243 l3.1, y265 (sa := sa) (sv := sv) (d := d + 4) l3.1 l4]
    have hfin : r272 sa sv (d + 5) 80 [some (.ref (N + 243)), some (.int (nI 0)), some (.long v), none, some (.int (-1)), some (.int (nI 0)), none] [.int (nI (if lsum L = 100 then 0 else 1)), .ref (N + 243)] m3 = some (.inl none, m4) := by
      split at n3
      · rw [n3.1, gb_pos nI_0]
      · exact n3
    by_cases e : lsum L = 100
    · rw [if_pos e] at hfin
      rw [gb_pos e]; exact hfin
    · rw [if_neg e] at hfin
      rw [gb_neg e]; exact hfin
  refine ⟨m4, run, hF3.trans n1, ?_⟩
  unfold sWK
  cases z1 : sFst b n (cN s 1) 12 i with
  | inl e =>
    rw [z1] at e1'
    rw [← e4, ← e3, ← e2, ← e1'] at n2
    exact n2
  | inr x1 =>
    have s1 : σ1 = .inr x1.1 := by rw [← e1', z1]; rfl
    show RT m4 N b n (eb (sNew s q b n x1.1) _)
    cases z2 : sNew s q b n x1.1 with
    | inl e =>
      have s2 : σ2 = .inl e := by rw [← e2, s1]; show pst (sNew s q b n x1.1) = _; rw [z2]; rfl
      rw [← e4, ← e3, s2] at n2
      exact n2
    | inr x2 =>
      have s2 : σ2 = .inr x2.1 := by rw [← e2, s1]; show pst (sNew s q b n x1.1) = _; rw [z2]; rfl
      show RT m4 N b n (eb (sShs s q b n x2.1) _)
      cases z3 : sShs s q b n x2.1 with
      | inl e =>
        have s3 : σ3 = .inl e := by rw [← e3, s2]; show pst (sShs s q b n x2.1) = _; rw [z3]; rfl
        rw [← e4, s3] at n2
        exact n2
      | inr x3 =>
        have s3 : σ3 = .inr x3.1 := by rw [← e3, s2]; show pst (sShs s q b n x2.1) = _; rw [z3]; rfl
        have hv : v = x2.2 := k4 x2 (by rw [s1]; exact z2)
        have hL : L = x3.2 := l5 x3 (by rw [s2]; exact z3)
        subst hL hv
        show RT m4 N b n (eb (sSemi b n (if lsum x3.2 = 100 then 0 else 1) x3.1) _)
        rw [← e4, s3] at n2 n3
        exact RT.fin n2 (fun z => by rw [if_pos z] at n3; exact n3.2)
end R89
