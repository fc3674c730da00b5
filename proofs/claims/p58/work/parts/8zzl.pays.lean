/-! pays whole -/
section J8
variable {sa sv d N x b B w A r8 r9 : Nat} {m M : am_M} {ow : Nat → Nat} {X : TX} {s : Nat → Int32} {q : Nat → Int64}
theorem x299_241 (h : JT sa m sv N x ow B X s q) (hl : LM s q) (hu : 1 ≤ X.u) (es : (unX X).s = s) (eq : (unX X).q = q) (hs0 : X.s 0 = s 0) (k8 : gk_ m r8 = (2, cN s 0)) (k9 : gk_ m r9 = (4, cN s 0)) (hv : ∀ p, p < cN s 0 → X.q p = gl_ m r9 p + (gi_ m r8 p).toInt64) (l3 l4 l6 l7 l10 : Int32) : ∃ M, r299 sa sv (d + 7) 241 [some (.ref N), some (.ref x), some (.ref b), some (.int l3), some (.int l4), some (.int (nI A)), some (.int l6), some (.int l7), some (.ref r8), some (.ref r9), some (.int l10), some (.int (nI A)), some (.int (nI 0))] [] m = some (.inl (some (.int (nI 1))), M) ∧ JT sa M sv N x ow B (unX X) (unX X).s (unX X).q ∧ Fr (KC N) m M := by
  obtain ⟨e0, b0⟩ := (wc_np h.wc).c (by decide)
  have c0 : cN X.s 0 = cN s 0 := congrArg Int32.toNatClampNeg hs0
  rw [c0] at e0 b0
  have hnp : gi_ m x 0 = nI (cN s 0) := h.ws.np.trans (hs0.symm.trans e0)
  have key := lp_up (fun i => r299 sa sv (d + 7) 241 [some (.ref N), some (.ref x), some (.ref b), some (.int l3), some (.int l4), some (.int (nI A)), some (.int l6), some (.int l7), some (.ref r8), some (.ref r9), some (.int l10), some (.int (nI A)), some (.int (nI i))] [] m) (cN s 0) (fun i hi => by
    rw [b299_241, gq_pos h.ws.k, hnp, gb_neg (by rw [nI_leE (by omega) (by omega)]; omega), gq_pos h.k0, h.bal (d := d + 4) (by omega), cl_v, gq_pos ⟨by rw [k9], by rw [k9]; exact in_of hi (by omega)⟩, gq_pos ⟨.inl (by rw [k8]), by rw [k8]; exact in_of hi (by omega)⟩, nI_N (k := i) (by omega), gb_pos ((lgc_eq _ _).mpr (hv i hi)), nI_add])
  obtain ⟨M, e1, j1, f1⟩ := h.undo (sa := sa) (d := d + 6) hl hu
  have u9 : X.u < 2 ^ 20 := by have := h.tc.u5; omega
  have j2 : JT sa M sv N x ow B (unX X) (unX X).s (unX X).q := by rw [es, eq]; exact j1
  refine ⟨M, key.trans ?_, j2, f1⟩
  rw [b299_241, gq_pos h.ws.k, hnp, gb_pos (Int32.le_refl _), gb_pos rfl, gq_pos h.k0, e1, ci_v, gb_neg (by rw [nI_lt0 (by omega)]; exact fun z => z), x295 (d := d + 2) j2, ci_v, gb_neg (by decide), gq_pos (by decide)]
theorem unX_n (X : TX) : (unX X).n = X.n := by
  unfold unX
  split <;> rfl
theorem x299 (h : JT sa m sv N x ow B X X.s X.q) (hl : LM X.s X.q) (hB : B + 1 < 2 ^ 20) (hk : (gk_ m b).1 = 2 ∨ (gk_ m b).1 = 7) (h2 : (gk_ m b).2 < 2 ^ 20) {i : Nat} (hi : i < 12) : ∃ m' ow' X', am_ca sa sv (d + 8) 299 [.ref N, .ref x, .ref b, .int (nI i)] m = some (.inl (some (.int (nI 1))), m') ∧ JT sa m' sv N x ow' (B + 1) X' X'.s X'.q ∧ X'.s = X.s ∧ X'.q = X.q ∧ X'.n = X.n ∧ Ex (fun _ => True) 2 20 m m' := by
  obtain ⟨e0, b0⟩ := (wc_np h.wc).c (by decide)
  have b1 := isN_lt (wc_nw h.wc) (by decide)
  have hp5 := hl.p
  have hnp : gi_ m x 0 = nI (cN X.s 0) := h.ws.np.trans e0
  obtain ⟨L, ⟨⟨c, hc⟩, a1, a0⟩, a2, a3⟩ := h.ws.wk
  have ez := x233 (sa := sa) (sv := sv) (d := d + 6) hc
  obtain ⟨w, hw, ew⟩ := x293 (sa := sa) (sv := sv) (d := d + 5) hk h2 (show 500 + i < 2 ^ 30 by omega) (show 0 < L.length by have := hl.w; omega) (show L.length < 2 ^ 31 by omega)
  obtain ⟨v, hv, ev⟩ := x293 (sa := sa) (sv := sv) (d := d + 5) hk h2 (show 520 + i < 2 ^ 30 by omega) (show 0 < 50000 by decide) (show 50000 < 2 ^ 31 by decide)
  rw [a2] at hw
  have hx := h.ws.x.2.1
  have top := h.top
  have xa : Ex NoP (1 + 1) (cN X.s 0 + cN X.s 0) m (al_ (al_ m (2, cN X.s 0) (cN X.s 0)) (4, cN X.s 0) (cN X.s 0)) := (Ex.al m _ _).trans (Ex.al _ _ _) (fun _ _ z => z)
  have j0 := h.xs (ow' := fun y => if y < gt_ m then ow y else 300) hl xa (fun _ _ z => absurd z id) NoP.nk (fun y hy => if_pos hy)
  have g1 : gt_ (al_ m (2, cN X.s 0) (cN X.s 0)) = gt_ m + 1 := rfl
  have k8 : gk_ (al_ (al_ m (2, cN X.s 0) (cN X.s 0)) (4, cN X.s 0) (cN X.s 0)) (gt_ m) = (2, cN X.s 0) := (gk_alo _ _ _ (by rw [g1]; omega)).trans (gk_al m _ _)
  have k9 : gk_ (al_ (al_ m (2, cN X.s 0) (cN X.s 0)) (4, cN X.s 0) (cN X.s 0)) (gt_ m + 1) = (4, cN X.s 0) := gk_al (al_ m (2, cN X.s 0) (cN X.s 0)) _ _
  have A1 : 1 ≤ 1 + v := by omega
  have A9 : 1 + v ≤ 9999999 := by omega
  obtain ⟨M, e1, j1, c8, c9, hval, x1⟩ := x299_60 (sa := sa) (d := d) (b := b) j0 hl hw A1 A9 (r8 := gt_ m) (r9 := gt_ m + 1) top (by omega) (by omega) (by show 300 ≤ (if gt_ m < gt_ m then ow _ else 300); rw [if_neg (by omega)]; exact Nat.le_refl _) (by show 300 ≤ (if gt_ m + 1 < gt_ m then ow _ else 300); rw [if_neg (by omega)]; exact Nat.le_refl _) k8 k9 (nI i) none none
  obtain ⟨M2, e2, j2, f2⟩ := j1.wC (sa := sa) (d := d + 1) hl hw A1 A9
  obtain ⟨M3, e3, j3, f3⟩ := j2.inc (sa := sa) (d := d + 1) hl hw A1 A9 hB
  have hG : ∀ y ∈ dL_ X.s w (1 + v), GL X.s y := dvd_GL h.wc h.ww h.wa (cN X.s 4) w (1 + v) hw A9
  have hlen : (dL_ X.s w (1 + v)).length ≤ 64 := dvd_64 h.wc h.ww (cN X.s 4) w (1 + v) hw
  have hsum : lsm_ (dL_ X.s w (1 + v)) = 1 + v := dvd_lsmE h.wc h.ww h.wa (cN X.s 4) w (1 + v) hw
  obtain ⟨r1, r2, r3⟩ := rem_u X (bS_ X.s (dL_ X.s w (1 + v))) (bQ_ X.s (dL_ X.s w (1 + v)) (dvd_ X.s (cN X.s 4) w (1 + v)).1 X.q)
  have f23 := f2.trans f3
  have nk : ∀ r k, N + 243 ≤ r → ¬ KC N r k := fun r k hr z => by have := z.1; omega
  have d8 : gk_ M3 (gt_ m) = (2, cN X.s 0) := (congrFun f23.1.1 _).trans c8
  have d9 : gk_ M3 (gt_ m + 1) = (4, cN X.s 0) := (congrFun f23.1.1 _).trans c9
  have e4 := x299_173 (sa := sa) (d := d) (b := b) (r8 := gt_ m) (r9 := gt_ m + 1) j3 (l := dL_ X.s w (1 + v)) (s0 := X.s) rfl hG hlen (nI i) (nI w) (nI (1 + v)) (nI (1 + v)) (nI (1 + v))
  obtain ⟨M4, e5, j4, f4⟩ := x299_241 (sa := sa) (d := d) (b := b) (A := 1 + v) (r8 := gt_ m) (r9 := gt_ m + 1) j3 hl r1 r2 r3 (bS_o (s := X.s) (dL_ X.s w (1 + v)) (k := 0) (by decide) (.inl (by decide))) d8 d9 (fun p hp => by
    rw [f23.2.1 _ p (nk _ _ top), f23.2.2.1 _ p (nk _ _ (by omega)), (hval p hp).1, (hval p hp).2]
    show X.q p + (nI (bN_ X.s (dL_ X.s w (1 + v)) _ p)).toInt64 = _
    rw [bN_b0 _ _ (by omega)]) (nI i) (nI w) (nI (1 + v)) (nI (1 + v)) (nI (dL_ X.s w (1 + v)).length)
  refine ⟨M4, _, _, ?_, j4, r2, r3, unX_n _, ?_⟩
  · rw [c299, b299_0, gq_pos ⟨h.ws.k, a1.2.2⟩, gq_pos hc.1, ez, ci_v, nI_add, ew, ci_v, nI_add, ev, ci_v, gq_pos h.ws.k, hnp, gq_pos ⟨by rw [nI_lt0 (by omega)]; exact fun z => z, by rw [nI_N (by omega)]; omega, h.ge⟩, nI_N (k := cN X.s 0) (by omega), gi_alo _ _ _ hx, hnp, gq_pos ((gk_alo _ _ _ hx).trans h.ws.k), gq_pos ⟨by rw [nI_lt0 (by omega)]; exact fun z => z, by rw [nI_N (by omega)]; omega, h.ge⟩, nI_N (k := cN X.s 0) (by omega), nI_add]
    refine e1.trans ?_
    rw [b299_60, gq_pos j1.ws.k, j1.ws.np, e0, gb_pos (Int32.le_refl _), gb_pos rfl, gb_pos rfl, gq_pos j1.k0, e2, ci_v, gb_pos rfl, gq_pos j2.k0, e3, ci_v]
    refine e4.trans ?_
    rw [hsum]
    exact e5
  · have x23 : Ex (fun _ => True) 0 0 M M3 := Ex.of f23 fun _ _ _ => trivial
    have x4 : Ex (fun _ => True) 0 0 M3 M4 := Ex.of f4 fun _ _ _ => trivial
    have xa' : Ex (fun _ => True) (1 + 1) (cN X.s 0 + cN X.s 0) m (al_ (al_ m (2, cN X.s 0) (cN X.s 0)) (4, cN X.s 0) (cN X.s 0)) := xa.mono (fun _ _ _ => trivial) (Nat.le_refl _) (Nat.le_refl _)
    exact ((((xa'.trans x1 (fun _ _ _ => trivial)).trans x23 (fun _ _ z => z)).trans x4 (fun _ _ z => z)).mono (fun _ _ z => z) (by omega) (by omega))
end J8
