/-! pays: what an income would bring is what it brings, and undoing it brings all back -/
section J8
variable {sa sv d N x b B w A r8 r9 : Nat} {m M : am_M} {ow : Nat → Nat} {X : TX} {s : Nat → Int32} {q : Nat → Int64}
theorem eg_all (hC : WC s) (hW : WW s) (hA : WA s) (hD : WD s) {day : Nat} (hw : w < cN s 1) (hA9 : A ≤ 9999999) : sum_ (fun p => eg_ (dvd_ s day w A).2 p (dvd_ s day w A).2.length) (cN s 0) = A ∧ sum_ (fun p => og_ s (dvd_ s day w A).2 p (dvd_ s day w A).2.length + (wh_ s (dvd_ s day w A).2 (dvd_ s day w A).2.length).2 p) (cN s 0) = A := by
  have hG := dvd_GL hC hW hA day w A hw hA9
  have hl := dvd_lsmE hC hW hA day w A hw
  generalize (dvd_ s day w A).2 = l at hG hl ⊢
  obtain ⟨h1, h2, -, -⟩ := wh_all hC hD (fun x hx => (hG x hx).2.1) l.length (Nat.le_refl _)
  rw [List.take_length, hl] at h1 h2
  refine ⟨h2, ?_⟩
  rw [sum_add]; exact h1
theorem sum_b (f : Nat → Nat) {i n A : Nat} (h : i ≤ n) (hs : sum_ f n = A) : sum_ f i ≤ A := by
  rw [← hs]; exact sum_mono f h
/-- what every payee would get -/
theorem x299_60 (h : JT sa m sv N x ow B X X.s X.q) (hl : LM X.s X.q) (hw : w < cN X.s 1) (hA : 1 ≤ A) (hA9 : A ≤ 9999999) (h8 : N + 243 ≤ r8) (h9 : N + 243 ≤ r9) (hne : ¬ r8 = r9) (o8 : 300 ≤ ow r8) (o9 : 300 ≤ ow r9) (k8 : gk_ m r8 = (2, cN X.s 0)) (k9 : gk_ m r9 = (4, cN X.s 0)) (l3 : Int32) (p11 p12 : Option Value) : ∃ M, r299 sa sv (d + 7) 60 [some (.ref N), some (.ref x), some (.ref b), some (.int l3), some (.int (nI w)), some (.int (nI A)), some (.int (nI 0)), some (.int (nI 0)), some (.ref r8), some (.ref r9), some (.int (nI 0)), p11, p12] [] m = r299 sa sv (d + 7) 60 [some (.ref N), some (.ref x), some (.ref b), some (.int l3), some (.int (nI w)), some (.int (nI A)), some (.int (nI A)), some (.int (nI A)), some (.ref r8), some (.ref r9), some (.int (nI (cN X.s 0))), p11, p12] [] M ∧ JT sa M sv N x ow B X X.s X.q ∧ gk_ M r8 = (2, cN X.s 0) ∧ gk_ M r9 = (4, cN X.s 0) ∧ (∀ p, p < cN X.s 0 → gi_ M r8 p = nI (og_ X.s (dL_ X.s w A) p (dL_ X.s w A).length + (wh_ X.s (dL_ X.s w A) (dL_ X.s w A).length).2 p) ∧ gl_ M r9 p = X.q p) ∧ Ex (fun y => (N ≤ y ∧ y < N + 243) ∨ y = r8 ∨ y = r9) 0 0 m M := by
  obtain ⟨e0, b0⟩ := (wc_np h.wc).c (by decide)
  obtain ⟨sE, sD⟩ := eg_all h.wc h.ww h.wa h.wd (day := cN X.s 4) hw hA9
  change sum_ (fun p => eg_ (dL_ X.s w A) p (dL_ X.s w A).length) (cN X.s 0) = A at sE
  change sum_ (fun p => og_ X.s (dL_ X.s w A) p (dL_ X.s w A).length + (wh_ X.s (dL_ X.s w A) (dL_ X.s w A).length).2 p) (cN X.s 0) = A at sD
  have key := lp_inv (fun i M => r299 sa sv (d + 7) 60 [some (.ref N), some (.ref x), some (.ref b), some (.int l3), some (.int (nI w)), some (.int (nI A)), some (.int (nI (sum_ (fun p => eg_ (dL_ X.s w A) p (dL_ X.s w A).length) i))), some (.int (nI (sum_ (fun p => og_ X.s (dL_ X.s w A) p (dL_ X.s w A).length + (wh_ X.s (dL_ X.s w A) (dL_ X.s w A).length).2 p) i))), some (.ref r8), some (.ref r9), some (.int (nI i)), p11, p12] [] M) (fun i M => JT sa M sv N x ow B X X.s X.q ∧ gk_ M r8 = (2, cN X.s 0) ∧ gk_ M r9 = (4, cN X.s 0) ∧ (∀ p, p < i → gi_ M r8 p = nI (og_ X.s (dL_ X.s w A) p (dL_ X.s w A).length + (wh_ X.s (dL_ X.s w A) (dL_ X.s w A).length).2 p) ∧ gl_ M r9 p = X.q p) ∧ Ex (fun y => (N ≤ y ∧ y < N + 243) ∨ y = r8 ∨ y = r9) 0 0 m M) (cN X.s 0) (fun i M hi ⟨j, a8, a9, av, e⟩ => by
    obtain ⟨M1, e1, j1, f1⟩ := j.wE (sa := sa) (d := d) hl hw hi hA hA9
    obtain ⟨M2, e2, j2, f2⟩ := j1.wG (sa := sa) (d := d) hl hw hi hA hA9
    have f12 := f1.trans f2
    have c8 : gk_ M2 r8 = (2, cN X.s 0) := (congrFun f12.1.1 r8).trans a8
    have c9 : gk_ M2 r9 = (4, cN X.s 0) := (congrFun f12.1.1 r9).trans a9
    have nk : ∀ k, ¬ KC N r8 k ∧ ¬ KC N r9 k := fun k => ⟨fun z => by have := z.1; omega, fun z => by have := z.1; omega⟩
    have j3 := j2.si8 hl h8 o8 (.inl (by rw [c8])) i (nI (og_ X.s (dL_ X.s w A) i (dL_ X.s w A).length + (wh_ X.s (dL_ X.s w A) (dL_ X.s w A).length).2 i))
    have j4 := j3.sl8 (r := r9) hl h9 o9 (.inr (by rw [gk_si, c9])) i (X.q i)
    have hnp : ∀ M', JT sa M' sv N x ow B X X.s X.q → gi_ M' x 0 = nI (cN X.s 0) := fun M' j' => j'.ws.np.trans e0
    refine ⟨_, ?_, j4, c8, c9, fun p hp => ⟨?_, ?_⟩, ?_⟩
    · rw [b299_60, gq_pos j.ws.k, hnp _ j, gb_neg (by rw [nI_leE (by omega) (by omega)]; omega), gq_pos j.k0, e1, ci_v, gq_pos j1.k0, e2, ci_v, gq_pos ⟨by rw [c8], by rw [c8]; exact in_of hi (by omega)⟩, gq_pos ⟨.inl (by rw [c8]), by rw [c8]; exact in_of hi (by omega)⟩, gq_pos j2.k0, nI_N (k := i) (by omega), j3.bal (d := d + 4) hi, cl_v, gq_pos ⟨by rw [gk_si, c9], by rw [gk_si, c9]; exact in_of hi (by omega)⟩, gi_si1, nI_add, nI_add, nI_add]
      rfl
    · rw [gi_sl, gi_si]
      by_cases c : p = i
      · rw [if_pos ⟨rfl, c⟩, c]
      · rw [if_neg (fun z => c z.2), f12.2.1 r8 p (nk p).1]; exact (av p (by omega)).1
    · rw [gl_sl]
      by_cases c : p = i
      · rw [if_pos ⟨rfl, c⟩, c]
      · rw [if_neg (fun z => c z.2), gl_si, f12.2.2.1 r9 p (nk p).2]; exact (av p (by omega)).2
    · have e12 : Ex (fun y => (N ≤ y ∧ y < N + 243) ∨ y = r8 ∨ y = r9) 0 0 M M2 := Ex.of f12 fun a k z => .inl ⟨z.2.1, z.1⟩
      exact ((e.trans e12 (fun _ _ z => z)).si (.inr (.inr (.inl rfl)))).sl (.inr (.inr (.inr rfl)))) m ⟨h, k8, k9, fun p hp => absurd hp (Nat.not_lt_zero _), Ex.refl _ _⟩
  obtain ⟨M, g1, g2⟩ := key
  rw [sE, sD] at g1
  exact ⟨M, g1, g2⟩
/-- the lines -/
theorem x299_173 (h : JT sa m sv N x ow B X s q) {l : List Ln} {s0 : Nat → Int32} (hs : X.s = bS_ s0 l) (hG : ∀ y ∈ l, GL s0 y) (hlen : l.length ≤ 64) (l3 l4 l5 l6 l7 : Int32) : r299 sa sv (d + 7) 173 [some (.ref N), some (.ref x), some (.ref b), some (.int l3), some (.int l4), some (.int l5), some (.int l6), some (.int l7), some (.ref r8), some (.ref r9), some (.int (nI l.length)), some (.int (nI 0)), some (.int (nI 0))] [] m = r299 sa sv (d + 7) 241 [some (.ref N), some (.ref x), some (.ref b), some (.int l3), some (.int l4), some (.int l5), some (.int l6), some (.int l7), some (.ref r8), some (.ref r9), some (.int (nI l.length)), some (.int (nI (lsm_ l))), some (.int (nI 0))] [] m := by
  have e6 : X.s 6 = nI l.length := by rw [hs]; exact if_pos rfl
  have c6 : cN X.s 6 = l.length := by
    show (X.s 6).toNatClampNeg = _
    rw [e6, nI_N (by omega)]
  have key := lp_up (fun i => r299 sa sv (d + 7) 173 [some (.ref N), some (.ref x), some (.ref b), some (.int l3), some (.int l4), some (.int l5), some (.int l6), some (.int l7), some (.ref r8), some (.ref r9), some (.int (nI l.length)), some (.int (nI (lsm_ (l.take i)))), some (.int (nI i))] [] m) l.length (fun i hi => by
    have hy : l[i]? = some l[i] := List.getElem?_eq_getElem hi
    have hg := hG l[i] (List.getElem_mem _)
    generalize l[i] = y at hy hg
    obtain ⟨y1, y2, y3, y4, y5⟩ := hg
    have e : l.take (i + 1) = l.take i ++ [y] := by rw [List.take_succ, hy]; rfl
    have e1 : lsm_ (l.take (i + 1)) = lsm_ (l.take i) + y.2.2.1 := by rw [e, lsm_app]; rfl
    have lv : ∀ c, c < 4 → X.s (767 + 4 * i + c) = lnv_ s0 l (4 * i + c) := fun c hc => by
      rw [hs, Nat.add_assoc]; exact bS_l l (by omega)
    have v2 : X.s (767 + 4 * i + 2) = nI y.2.2.1 := by
      rw [lv 2 (by decide)]
      unfold lnv_
      rw [show (4 * i + 2) / 4 = i by omega, hy]
      show (if (4 * i + 2) % 4 = 0 then _ else if (4 * i + 2) % 4 = 1 then _ else if (4 * i + 2) % 4 = 2 then nI y.2.2.1 else _ : Int32) = _
      rw [if_neg (by omega), if_neg (by omega), if_pos (by omega)]
    have v3 : X.s (767 + 4 * i + 3) = nI (wd_ s0 l i) := by
      rw [lv 3 (by decide)]
      unfold lnv_
      rw [show (4 * i + 3) / 4 = i by omega, hy]
      show (if (4 * i + 3) % 4 = 0 then _ else if (4 * i + 3) % 4 = 1 then _ else if (4 * i + 3) % 4 = 2 then _ else nI (wd_ s0 l i) : Int32) = _
      rw [if_neg (by omega), if_neg (by omega), if_neg (by omega)]
    have q2 := h.lin (sa := sa) (d := d + 5) (show i < cN X.s 6 by omega) (show 2 < 4 by decide)
    have q3 := h.lin (sa := sa) (d := d + 5) (show i < cN X.s 6 by omega) (show 3 < 4 by decide)
    rw [v2] at q2
    rw [v3] at q3
    have wl := wd_le (s := s0) hy
    rw [b299_173, gb_neg (by rw [nI_leE (by omega) (by omega)]; omega), gq_pos h.k0, q2, ci_v, gq_pos h.k0, q2, ci_v, gb_neg (by rw [nI_ltE (by omega) (by omega)]; omega), gq_pos h.k0, q3, ci_v, gb_neg (by rw [nI_lt0 (by omega)]; exact fun z => z), gq_pos h.k0, q3, ci_v, gq_pos h.k0, q2, ci_v, gb_pos (by rw [nI_leE (by omega) (by omega)]; exact wl), nI_add, nI_add, e1])
  refine key.trans ?_
  rw [b299_173, gb_pos (Int32.le_refl _), List.take_length]
end J8
