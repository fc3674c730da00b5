/-! how the reference's statements end; a payee is read: the reference -/
def RWr (N a k : Nat) : Prop := RSh N a k ∨ a = N + 245 ∨ a = N + 249
def RT (m : am_M) (N : Nat) (b : Nat → Nat) (n : Nat) (z : Er ⊕ (Nat × ((Nat → Int32) × (Nat → Int64)))) : Prop := match z with
  | .inl e => RQ m N b n (.inl e)
  | .inr x => ∃ j, x.1 = j + 1 ∧ RQ m N b n (.inr j) ∧ RS m N x.2.1 x.2.2
section R87
variable {sa sv d N T n i B : Nat} {m : am_M} {b : Nat → Nat} {s s' : Nat → Int32} {q q' : Nat → Int64} {σ : Er ⊕ Nat}
theorem RT.fin {w j : Nat} (h : RQ m N b n (pst (eb (.inr j) (sFit b n w)))) (hR : gd_s (pst (eb (.inr j) (sFit b n w))) = true → RS m N s' q') : RT m N b n (eb (sSemi b n w j) fun x => .inr (x.1, s', q')) := by
  have h' : RQ m N b n (pst (sFit b n w j)) := h
  have hR' : gd_s (pst (sFit b n w j)) = true → RS m N s' q' := hR
  clear h hR
  unfold sFit at h' hR'
  unfold sSemi
  by_cases e : Kd b n j = 4
  · rw [if_pos e] at h' hR' ⊢
    by_cases e2 : w = 0
    · rw [if_pos e2] at h' hR' ⊢
      exact ⟨j, rfl, h', hR' rfl⟩
    · rw [if_neg e2] at h' ⊢
      exact h'
  · rw [if_neg e] at h' ⊢
    exact h'
theorem pst_r {α : Type} {z : Er ⊕ (Nat × α)} {j : Nat} (h : pst z = .inr j) : ∃ x, z = .inr x ∧ x.1 = j := by
  cases z with
  | inl e => cases h
  | inr x => exact ⟨x, rfl, Sum.inr.inj h⟩
theorem eb_r {α β : Type} {z : Er ⊕ α} {f : α → Er ⊕ β} {x : β} (h : eb z f = .inr x) : ∃ y, z = .inr y ∧ f y = .inr x := by
  cases z with
  | inl e => cases h
  | inr y => exact ⟨y, rfl, h⟩
theorem isK_r {k : Nat} (h : isK b n k σ = true) : ∃ j, σ = .inr j ∧ Kd b n j = k := by
  cases σ with
  | inl e => cases h
  | inr j => exact ⟨j, rfl, of_decide_eq_true h⟩
theorem gd_r (h : gd_s σ = true) : ∃ j, σ = .inr j := by
  cases σ with
  | inl e => cases h
  | inr j => exact ⟨j, rfl⟩
def pyS1 (s : Nat → Int32) (l : Int32) (k : Nat) : Int32 := if k = 0 then nI (cN s 0 + 1) else if k = 8 + cN s 0 then l else s k
theorem y271_49 (h : RQ m N b n σ) (hR : RS m N s q) (hC : WC s) (v : Int64) (x5 l : Int32) (o4 : Option Value) (hn : gd_s (pst (eb σ (sFit b n 0))) = true → cN s 0 < 10) : ∃ m', r271 sa sv (d + 3) 49 [some (.ref (N + 243)), some (.long v), none, some (.int x5), o4] [.int l] m = some (.inl none, m') ∧ Fr (RWr N) m m' ∧ RQ m' N b n (pst (eb σ (sFit b n 0))) ∧ (gd_s (pst (eb σ (sFit b n 0))) = true → RS m' N (pyS1 s l) (pyQ s q v)) := by
  obtain ⟨m1, g1, g2, g3⟩ := y268 (sa := sa) (sv := sv) (d := d) h 0 (by decide)
  have e1 := y235 (sa := sa) (sv := sv) (d := d + 2) g3
  have hR1 := hR.h g2
  generalize pst (eb σ (sFit b n 0)) = τ at *
  have hF1 : Fr (RWr N) m m1 := g2.mono fun _ _ z => Or.inl z.sh
  have run : r271 sa sv (d + 3) 49 [some (.ref (N + 243)), some (.long v), none, some (.int x5), o4] [.int l] m = if gd_s τ = true then some (.inl none, si_ (si_ (sl_ m1 (N + 249) (462 + cN s 0) v) (N + 245) (8 + cN s 0) l) (N + 245) 0 (nI (cN s 0 + 1))) else some (.inl none, m1) := by
    rw [b271_49]
    simp (disch := omega) only [gq_true, gb_true, gb_false, true_and, and_true, eq_self, not_false_eq_true, not_true_eq_false, true_or, or_true, false_or, or_false, false_and, and_false, c0_v, ci_v, cl_v, cf_v, pk_mul, nI_add, nI_clamp, nI_lt0, nI_0le, nI_eq0, nI_lt0r, nI_ltE, nI_leE, nI_eqE, nI_m1, in_t, ba0, ba1, Nat.one_ne_zero, Nat.reduceEqDiff, Nat.reduceLeDiff, Nat.add_eq_zero_iff, xk243 h.1, g1, xk243 g3.1, e1]
    cases hg : gd_s τ with
    | false => rw [tr_f, gb_pos nI_0, if_neg (by decide)]
    | true =>
      have h10 := hn hg
      have np : gi_ m1 (N + 245) 0 = nI (cN s 0) := (rs hR1 0).trans ((wc_np hC).c (by decide)).1
      have r0 : gi_ (si_ m1 (N + 245) (8 + cN s 0) l) (N + 245) 0 = nI (cN s 0) := by rw [gi_si, if_neg (by omega)]; exact np
      rw [tr_t, gb_neg (by decide), if_pos rfl]
      simp (disch := omega) only [gq_true, gb_true, gb_false, true_and, and_true, eq_self, not_false_eq_true, not_true_eq_false, true_or, or_true, false_or, or_false, false_and, and_false, c0_v, ci_v, cl_v, cf_v, pk_mul, nI_add, nI_clamp, nI_lt0, nI_0le, nI_eq0, nI_lt0r, nI_ltE, nI_leE, nI_eqE, nI_m1, in_t, ba0, ba1, Nat.one_ne_zero, Nat.reduceEqDiff, Nat.reduceLeDiff, Nat.add_eq_zero_iff, xr243_19 g3.1, xr243_15 g3.1, xk245 g3.1, xk249 g3.1, np, r0]
  cases hg : gd_s τ with
  | false =>
    rw [hg, if_neg (by decide)] at run
    exact ⟨m1, run, hF1, g3, fun z => by cases z⟩
  | true =>
    rw [hg, if_pos rfl] at run
    have hF : Fr (fun a _ => a = N + 245 ∨ a = N + 249) m1 (si_ (si_ (sl_ m1 (N + 249) (462 + cN s 0) v) (N + 245) (8 + cN s 0) l) (N + 245) 0 (nI (cN s 0 + 1))) := (((Fr.refl _ _).sl (Or.inr rfl)).si (Or.inl rfl)).si (Or.inl rfl)
    refine ⟨_, run, hF1.trans (hF.mono fun _ _ z => Or.inr z), g3.fr hF (fun a k z => ⟨XF.hi (by omega), by omega, fun _ => by omega⟩), fun _ => ⟨hR1.1.frg hF (fun a k z => XF.hi (by omega)), funext fun k => ?_, funext fun k => ?_⟩⟩
    · rw [gi_si, gi_si]
      unfold pyS1
      by_cases e : k = 0
      · rw [if_pos ⟨rfl, e⟩, if_pos e]
      · rw [if_neg (fun z => e z.2), if_neg e]
        by_cases e2 : k = 8 + cN s 0
        · rw [if_pos ⟨rfl, e2⟩, if_pos e2]
        · rw [if_neg (fun z => e2 z.2), if_neg e2]; exact rs hR1 k
    · rw [gl_si, gl_si, gl_sl]
      unfold pyQ
      by_cases e : k = 462 + cN s 0
      · rw [if_pos ⟨rfl, e⟩, if_pos e]
      · rw [if_neg (fun z => e z.2), if_neg e]; exact rq hR1 k
theorem y271 (h : RQ m N b n (.inr i)) (hR : RS m N s q) (hG : WG B s q) (hk : ¬ Kd b n i = 1) : ∃ m', am_ca sa sv (d + 4) 271 [.ref (N + 243)] m = some (.inl none, m') ∧ Fr (RWr N) m m' ∧ RT m' N b n (sPS s q b n i) := by
  have hC := hG.1.1
  have hN := hG.1.2.2.2.2.2.2.2
  have hnp := isN_lt (wc_np hC) (by decide)
  have np : gi_ m (N + 245) 0 = nI (cN s 0) := (rs hR 0).trans ((wc_np hC).c (by decide)).1
  obtain ⟨m1, g1, g2, g3⟩ := y261 (sa := sa) (sv := sv) (d := d) h (fun j e => by rw [← Sum.inr.inj e]; exact hk) (cN s 0) 10 (by omega) (by decide)
  have hR1 := hR.h g2
  generalize e1 : pst (eb (.inr i) (sFst b n (cN s 0) 10)) = σ1 at *
  have e1' : pst (sFst b n (cN s 0) 10 i) = σ1 := e1
  obtain ⟨m2, v, k1, k2, k3, k4⟩ := y262 (sa := sa) (sv := sv) (d := d) g3 hR1 hC hN
  have hR2 := hR1.h k2
  generalize e2 : pst (eb σ1 (sNew s q b n)) = σ2 at *
  have i1 : am_ca sa sv (d + 3) 236 [.ref (N + 243), .long (12748404 : Int64)] m2 = _ := y236 (sa := sa) (sv := sv) (d := d + 2) k3 1 (by decide)
  have hF2 : Fr (RWr N) m m2 := (g2.trans k2).mono fun _ _ z => Or.inl z.sh
  by_cases hK : isK b n 8 σ2 = true
  · have i1' : am_ca sa sv (d + 3) 236 [.ref (N + 243), .long (12748404 : Int64)] m2 = some (.inl (some (.int (nI 1))), m2) := by rw [i1, hK]; rfl
    obtain ⟨j, rfl, hj⟩ := isK_r hK
    obtain ⟨y2, z1, z2⟩ := pst_r e2
    obtain ⟨y1, z3, z4⟩ := eb_r z1
    rw [z3] at e1'
    obtain ⟨x1, z5, z6⟩ := pst_r e1'
    obtain ⟨m3, l1, l2, l3⟩ := y233n (sa := sa) (sv := sv) (d := d + 1) k3
    have hR3 := hR2.h l2
    obtain ⟨m4, v4, n1, n2, n3, n4⟩ := y240 (sa := sa) (sv := sv) (d := d) l3 0 99999 (by decide) (by decide)
    have hR4 := hR3.h n2
    obtain ⟨m5, p1, p2, p3, p4⟩ := y271_49 (sa := sa) (sv := sv) (d := d) n3 hR4 hC v (nI 1) v4 none (fun _ => by have := (sFst_i z5).1; omega)
    refine ⟨m5, ?_, hF2.trans (((l2.trans n2).mono fun _ _ z => Or.inl z.sh).trans p2), ?_⟩
    · rw [c271, b271_0]
      simp (disch := omega) only [gq_true, gb_true, gb_false, true_and, and_true, eq_self, not_false_eq_true, not_true_eq_false, true_or, or_true, false_or, or_false, false_and, and_false, c0_v, ci_v, cl_v, cf_v, pk_mul, nI_add, nI_clamp, nI_lt0, nI_0le, nI_eq0, nI_lt0r, nI_ltE, nI_leE, nI_eqE, nI_m1, in_t, ba0, ba1, Nat.one_ne_zero, Nat.reduceEqDiff, Nat.reduceLeDiff, Nat.add_eq_zero_iff, xk243 h.1, xr243_15 h.1, xk245 h.1, np, g1, xk243 g3.1, k1, xk243 k3.1, i1', gb_neg, l1, xk243 l3.1, n1]
      exact p1
    · unfold sPS
      rw [z5]
      show RT m5 N b n (eb (sNew s q b n x1.1) _)
      rw [z6, z4]
      show RT m5 N b n (if Kd b n y2.1 = 8 then _ else _)
      rw [z2, if_pos hj]
      have hv : v = y2.2 := k4 y2 z1
      cases z7 : sNum b n 0 99999 (j + 1) with
      | inl e =>
        have : pst (eb (.inr (j + 1)) (sNum b n 0 99999)) = .inl e := by show pst (sNum b n 0 99999 (j + 1)) = _; rw [z7]; rfl
        rw [this] at p3
        exact p3
      | inr x3 =>
        have z8 : pst (eb (.inr (j + 1)) (sNum b n 0 99999)) = .inr x3.1 := by show pst (sNum b n 0 99999 (j + 1)) = _; rw [z7]; rfl
        rw [z8] at p3 p4
        have hv4 : v4 = nI x3.2 := n4 x3 z7
        rw [hv, hv4] at p4
        exact RT.fin p3 p4
  · have hK' : isK b n 8 σ2 = false := by cases h : isK b n 8 σ2 <;> first | rfl | exact absurd h hK
    have i1' : am_ca sa sv (d + 3) 236 [.ref (N + 243), .long (12748404 : Int64)] m2 = some (.inl (some (.int (nI 0))), m2) := by rw [i1, hK']; rfl
    obtain ⟨m5, p1, p2, p3, p4⟩ := y271_49 (sa := sa) (sv := sv) (d := d) k3 hR2 hC v (nI 0) (nI 0) none (fun z => by
      obtain ⟨j, hj⟩ := gd_r z
      obtain ⟨y, z1, z2⟩ := pst_r hj
      obtain ⟨y2, z3, z4⟩ := eb_r z1
      rw [z3] at e2
      obtain ⟨y5, z5, z6⟩ := pst_r e2
      obtain ⟨y7, z7, z8⟩ := eb_r z5
      rw [z7] at e1'
      obtain ⟨y9, z9, z10⟩ := pst_r e1'
      have := (sFst_i z9).1
      omega)
    refine ⟨m5, ?_, hF2.trans p2, ?_⟩
    · rw [c271, b271_0]
      simp (disch := omega) only [gq_true, gb_true, gb_false, true_and, and_true, eq_self, not_false_eq_true, not_true_eq_false, true_or, or_true, false_or, or_false, false_and, and_false, c0_v, ci_v, cl_v, cf_v, pk_mul, nI_add, nI_clamp, nI_lt0, nI_0le, nI_eq0, nI_lt0r, nI_ltE, nI_leE, nI_eqE, nI_m1, in_t, ba0, ba1, Nat.one_ne_zero, Nat.reduceEqDiff, Nat.reduceLeDiff, Nat.add_eq_zero_iff, xk243 h.1, xr243_15 h.1, xk245 h.1, np, g1, xk243 g3.1, k1, xk243 k3.1, i1']
      exact p1
    · unfold sPS
      cases z5 : sFst b n (cN s 0) 10 i with
      | inl e =>
        rw [z5] at e1'
        rw [← e2, ← e1'] at p3
        exact p3
      | inr x1 =>
        rw [z5] at e1'
        show RT m5 N b n (eb (sNew s q b n x1.1) _)
        cases z6 : sNew s q b n x1.1 with
        | inl e =>
          have : σ2 = .inl e := by rw [← e2, ← e1']; show pst (sNew s q b n x1.1) = _; rw [z6]; rfl
          rw [this] at p3
          exact p3
        | inr x2 =>
          have h2 : σ2 = .inr x2.1 := by rw [← e2, ← e1']; show pst (sNew s q b n x1.1) = _; rw [z6]; rfl
          rw [h2] at p3 p4 hK'
          have hv : v = x2.2 := k4 x2 (by rw [← e1']; exact z6)
          show RT m5 N b n (if Kd b n x2.1 = 8 then _ else _)
          rw [if_neg (of_decide_eq_false hK')]
          rw [hv] at p4
          exact RT.fin p3 p4
end R87
