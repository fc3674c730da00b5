/-! amends whole -/
section J8
variable {sa sv d N x b n n' z z' B v p u a c r : Nat} {m M m1 m2 m' : am_M} {ow ow' : Nat → Nat} {X : TX} {s s' : Nat → Int32} {q : Nat → Int64} {P : Nat → Prop}
theorem amd_len {p u a c : Nat} : (kb_ 1).length = 8 ∧ (nm_ 9 p).length = 2 ∧ (kb_ 2).length = 1 ∧ (dg_ a).length ≤ 4 ∧ (kb_ 3).length = 4 ∧ (nm_ 9 u).length = 2 ∧ (kb_ 4).length = 6 ∧ (dg_ c).length ≤ 4 ∧ (kb_ 5).length = 1 :=
  ⟨by rw [kb1]; rfl, nm_len (.inl rfl), by rw [kb2]; rfl, (dg_len).2, by rw [kb3]; rfl, nm_len (.inl rfl), by rw [kb4]; rfl, (dg_len).2, by rw [kb5]; rfl⟩
/-- the class reads an amendment -/
theorem am_read (h : JT sa m sv N x ow B X s q) (hl : LM s q) (hB : B < 2 ^ 20) {w : List Nat} {s' : Nat → Int32} (hb : X.b = bw w) (hn : X.n = w.length) (hr : sLp (bw w) w.length 900 0 0 X.s X.q = .inr (8, 1, s', X.q)) : ∃ M X', am_ca sa sv (d + 8) 155 [.ref N] m = some (.inl (some (.int (nI 1))), M) ∧ JT sa M sv N x ow B X' s q ∧ X'.s = s' ∧ X'.q = X.q ∧ X'.n = 0 ∧ X'.e1 = nI 0 ∧ X'.e3 = nI 0 ∧ Ex (fun _ => True) 0 0 m M := by
  have e := x155 (sa := sa) (sv := sv) (d := d) h.tc h.xg
  rw [hb, hn, hr] at e
  obtain ⟨M, e1, f1, t1, k1, g1⟩ := e
  have gX : XG B ((X157 X).rem.wS s' X.q) := (((h.xg.wB X.b 0).wE (nI 0) (-1) (nI 0)).rem).wS g1
  obtain ⟨j1, x1⟩ := h.fr hl f1 t1 gX hB
  exact ⟨M, _, e1, j1, rfl, rfl, rfl, rfl, rfl, x1.mono (fun _ _ _ => trivial) (Nat.le_refl _) (Nat.le_refl _)⟩
theorem LM.rad (h : LM s q) (h10 : cN s 3 < 10) {f : Nat → Int32} : LM (rowU s 690 3 (cN s 3) f) q := h.of (rowU_lo (by decide) (by decide) (by decide)) (rowU_lo (by decide) (by decide) (by decide)) (rowU_lo (by decide) (by decide) (by decide)) (by rw [cN_ (show rowU s 690 3 (cN s 3) f 3 = nI (cN s 3 + 1) from if_pos rfl) (by omega)]; exact h10) (fun k h1 h2 => by
  unfold rowU
  rw [if_neg (by omega), if_neg (by omega)]) (fun _ _ _ => rfl)
theorem x297 (h : JT sa m sv N x ow B X X.s X.q) (hl : LM X.s X.q) (hp : PI X.s X.q) (hn : X.n = 0) (hB : B + 1 < 2 ^ 20) (hv : v < 4000) : AO sa m sv N x B X (am_ca sa sv (d + 9) 297 [.ref N, .ref x, .int (nI v)] m) := by
  obtain ⟨e0, b0⟩ := (wc_np h.wc).c (by decide)
  have hnp : gi_ m x 0 = nI (cN X.s 0) := h.ws.np.trans e0
  have hp5 := hl.p
  have b3 := hl.dd
  obtain ⟨L, ⟨⟨c, hc⟩, a1, a0⟩, a2, a3⟩ := h.ws.ad
  have ez := x233 (sa := sa) (sv := sv) (d := d + 7) hc
  rw [a2] at ez
  by_cases h10 : 9 < cN X.s 3
  · have q0 := h.cnt (sa := sa) (d := d + 6) (show 0 < 7 by decide)
    rw [show cnt_ X.s 0 = X.s 0 from rfl] at q0
    refine AO.no h hB hl hp hn ?_
    rw [c297, b297_0, gq_pos ⟨h.ws.k, a1.2.2⟩, gq_pos hc.1, ez, ci_v, gb_pos (by rw [nI_ltE (by decide) (by omega)]; exact h10), gq_pos h.k0, q0, ci_v, gq_pos h.ws.k, gb_pos h.ws.np.symm, gq_pos (by decide)]
  · have hg : v % cN X.s 0 < cN X.s 0 := Nat.mod_lt _ (by omega)
    have hu : (v % cN X.s 0 + 1) % cN X.s 0 < cN X.s 0 := Nat.mod_lt _ (by omega)
    have hgu : ¬ v % cN X.s 0 = (v % cN X.s 0 + 1) % cN X.s 0 := by
      intro z
      by_cases y : v % cN X.s 0 + 1 < cN X.s 0
      · rw [Nat.mod_eq_of_lt y] at z; omega
      · rw [show v % cN X.s 0 + 1 = cN X.s 0 by omega, Nat.mod_self] at z; omega
    have r1 : nI v - nI v / nI (cN X.s 0) * nI (cN X.s 0) = nI (v % cN X.s 0) := pk_rem (by omega) (by omega) (by omega)
    have r2 : nI (v % cN X.s 0 + 1) - nI (v % cN X.s 0 + 1) / nI (cN X.s 0) * nI (cN X.s 0) = nI ((v % cN X.s 0 + 1) % cN X.s 0) := pk_rem (by omega) (by omega) (by omega)
    have r3 : nI v - nI v / nI 100 * nI 100 = nI (v % 100) := pk_rem (by omega) (by decide) (by decide)
    have hnm := hl.nm
    have hwc := h.wc
    have hww := h.ww
    generalize hP : v % cN X.s 0 = p at hg hu hgu r1 r2
    generalize hU : (p + 1) % cN X.s 0 = u at hu hgu r2
    obtain ⟨M1, ow1, e1, j1, x1⟩ := h.rad (sa := sa) (d := d + 2) hl h.wc h.ww (by omega) (f := v6c (nI p) (nI u) (nI (1 + v)) (nI (1 + v % 100)) (-1) (nI (1 + v)))
    have hl1 := hl.rad (show cN X.s 3 < 10 by omega) (f := v6c (nI p) (nI u) (nI (1 + v)) (nI (1 + v % 100)) (-1) (nI (1 + v)))
    have hp1 := hp.row3 (show cN X.s 3 < 12 by omega) (f := v6c (nI p) (nI u) (nI (1 + v)) (nI (1 + v % 100)) (-1) (nI (1 + v))) rfl
    obtain ⟨rb, rr⟩ := amt_read (p := p) (u := u) (a := 1 + v) (c := 1 + v % 100) hnm (show cN X.s 3 < 12 by omega) hg hu (by omega) (by omega) (by omega) (by omega) hgu
    obtain ⟨n1, n2, n3, n4, n5, n6, n7, n8, n9⟩ := amd_len (p := p) (u := u) (a := 1 + v) (c := 1 + v % 100)
    obtain ⟨M2, e2, sb2, x2, g2⟩ := x220 (sa := sa) (sv := sv) (d := d + 6) (m := M1) (z := 4) j1.ge
    have T0 : TB sa M1 M2 sv (gt_ M1) 2 20 [] := ⟨j1.ks.ex x2 NoP.nk, sb2, x2, Nat.le_refl _, Nat.le_of_lt g2⟩
    obtain ⟨M3, e3, T3⟩ := T0.c (sa := sa) (d := d + 3) (i := 1) (by decide) (by rw [n1]; decide)
    have l3 : ([] ++ kb_ 1).length = 8 := by rw [List.length_append, n1]; rfl
    obtain ⟨M4, t4, M4', e4, k4, e4', T4⟩ := T3.pa (sa := sa) (d := d + 1) (p := p) (by omega) (by rw [l3]; decide)
    have l4 : ([] ++ kb_ 1 ++ nm_ 9 p).length = 10 := by rw [List.length_append, l3, n2]
    obtain ⟨M5, e5, T5⟩ := T4.c (sa := sa) (d := d + 3) (i := 2) (by decide) (by rw [l4, n3]; decide)
    have l5 : ([] ++ kb_ 1 ++ nm_ 9 p ++ kb_ 2).length = 11 := by rw [List.length_append, l4, n3]
    obtain ⟨M6, e6, T6⟩ := T5.nu (sa := sa) (d := d + 3) (v := 1 + v) (by omega) (by rw [l5]; decide)
    have l6 : ([] ++ kb_ 1 ++ nm_ 9 p ++ kb_ 2 ++ dg_ (1 + v)).length ≤ 15 := by rw [List.length_append, l5]; omega
    obtain ⟨M7, e7, T7⟩ := T6.c (sa := sa) (d := d + 3) (i := 3) (by decide) (by omega)
    have l7 : ([] ++ kb_ 1 ++ nm_ 9 p ++ kb_ 2 ++ dg_ (1 + v) ++ kb_ 3).length ≤ 19 := by rw [List.length_append]; omega
    obtain ⟨M8, t8, M8', e8, k8, e8', T8⟩ := T7.pa (sa := sa) (d := d + 1) (p := u) (by omega) (by omega)
    have l8 : ([] ++ kb_ 1 ++ nm_ 9 p ++ kb_ 2 ++ dg_ (1 + v) ++ kb_ 3 ++ nm_ 9 u).length ≤ 21 := by rw [List.length_append]; omega
    obtain ⟨M9, e9, T9⟩ := T8.c (sa := sa) (d := d + 3) (i := 4) (by decide) (by omega)
    have l9 : ([] ++ kb_ 1 ++ nm_ 9 p ++ kb_ 2 ++ dg_ (1 + v) ++ kb_ 3 ++ nm_ 9 u ++ kb_ 4).length ≤ 27 := by rw [List.length_append]; omega
    obtain ⟨M10, e10, T10⟩ := T9.nu (sa := sa) (d := d + 3) (v := 1 + v % 100) (by omega) (by omega)
    have l10 : ([] ++ kb_ 1 ++ nm_ 9 p ++ kb_ 2 ++ dg_ (1 + v) ++ kb_ 3 ++ nm_ 9 u ++ kb_ 4 ++ dg_ (1 + v % 100)).length ≤ 31 := by rw [List.length_append]; omega
    obtain ⟨M11, e11, T11⟩ := T10.c (sa := sa) (d := d + 3) (i := 5) (by decide) (by omega)
    have l11 : ([] ++ kb_ 1 ++ nm_ 9 p ++ kb_ 2 ++ dg_ (1 + v) ++ kb_ 3 ++ nm_ 9 u ++ kb_ 4 ++ dg_ (1 + v % 100) ++ kb_ 5).length ≤ 32 := by rw [List.length_append]; omega
    have l11' : 0 < ([] ++ kb_ 1 ++ nm_ 9 p ++ kb_ 2 ++ dg_ (1 + v) ++ kb_ 3 ++ nm_ 9 u ++ kb_ 4 ++ dg_ (1 + v % 100) ++ kb_ 5).length := by rw [List.length_append, n9]; omega
    obtain ⟨M12, e12, S12, sb12, x12, g12, g12', k12, r12⟩ := x224 (sa := sa) (sv := sv) (d := d + 2) T11.2.1 (by omega)
    have ew := amt_w p (1 + v) u (1 + v % 100)
    have xx : Ex NoP ((2 + 1 + 7 + 1 + 1 + 1 + 7 + 1 + 1 + 1) + 2) ((20 + 2002 + 8002 + 2002 + 2002 + 2002 + 8002 + 2002 + 2002 + 2002) + 1004) M1 M12 := T11.2.2.1.trans x12 (fun _ _ y => y)
    have g11 := T11.2.2.1.gt
    have j12 := j1.xs (ow' := fun y => if y < gt_ M1 then ow1 y else 300) hl1 xx (fun _ _ y => absurd y id) NoP.nk (fun y hy => if_pos hy)
    rw [ew] at S12 l11 l11'
    rw [List.length_map] at l11 l11'
    have top1 := j1.top
    obtain ⟨M13, ow13, e13, j13, x13⟩ := x294 (sa := sa) (d := d + 4) (t := gt_ M11) j12 hn hl1 rb S12 ⟨by omega, g12'⟩ ⟨fun y => by unfold InC at y; omega, fun y => by unfold InC at y; omega⟩ l11' (by omega)
    obtain ⟨M14, X14, e14, j14, s14, q14, z14, ee1, ee3, x14⟩ := am_read (sa := sa) (d := d) j13 hl1 (by omega) (w := aml p (1 + v) u (1 + v % 100)) rfl rfl rr
    obtain ⟨M15, f15, t15, e15⟩ := x159 (sa := sa) (sv := sv) (d := d + 7) j14.tc
    rw [ee1] at e15
    obtain ⟨j15, x15⟩ := j14.fr hl1 f15 t15 j14.xg j14.bb
    obtain ⟨M16, f16, t16, e16⟩ := x161 (sa := sa) (sv := sv) (d := d + 7) j15.tc
    rw [ee3] at e16
    obtain ⟨j16, x16⟩ := j15.fr hl1 f16 t16 j14.xg j14.bb
    have yA : Ex (fun _ => True) _ _ m M12 := x1.trans xx (fun _ _ _ => trivial)
    have yB := (((yA.trans x13 (fun _ _ _ => trivial)).trans x14 (fun _ _ _ => trivial)).trans x15 (fun _ _ _ => trivial)).trans x16 (fun _ _ _ => trivial)
    refine AO.of (j16.up (Nat.le_succ B) hB) ?_ s14 q14 z14 hl1 hp1 ?_ (yB.mono (fun _ _ y => y) (by omega) (by omega))
    · have ka : gk_ (al_ m (2, 6) 6) (gt_ m) = (2, 6) := gk_al m _ _
      have kl : gk_ (al_ m (2, 6) 6) (gr_ m x 5) = (1, 15) := (gk_alo _ _ _ a1.2.1).trans hc.1
      have e1' : am_ca sa sv (d + 8) 238 [.ref (gr_ m x 5), .ref (gt_ m)] (si_ (si_ (si_ (si_ (si_ (si_ (al_ m (2, 6) 6) (gt_ m) 0 (nI p)) (gt_ m) 1 (nI u)) (gt_ m) 2 (nI (1 + v))) (gt_ m) 3 (nI (1 + v % 100))) (gt_ m) 4 (-1)) (gt_ m) 5 (nI (1 + v))) = some (.inl (some (.int (nI 1))), M1) := e1
      have six : ∀ k, k < 6 → in_ (nI k) 6 := fun k hk => in_of hk (by decide)
      rw [c297, b297_0, gq_pos ⟨h.ws.k, a1.2.2⟩, gq_pos hc.1, ez, ci_v, gb_neg (by rw [nI_ltE (by decide) (by omega)]; exact h10), gq_pos h.ws.k, hnp, gb_pos (by rw [nI_leE (by decide) (by omega)]; omega), gq_pos h.ws.k, gq_pos (by rw [nI_eq0 (by omega)]; omega), gq_pos h.ws.k, gq_pos (by rw [nI_eq0 (by omega)]; omega), gq_pos ⟨h.ws.k, a1.2.2⟩, nI_N (k := 6) (by decide), nI_N (k := 0) (by decide), nI_N (k := 1) (by decide), nI_N (k := 2) (by decide), nI_N (k := 3) (by decide), nI_N (k := 4) (by decide), nI_N (k := 5) (by decide), gq_pos ⟨by decide, by decide, h.ge⟩, ka, gq_pos ⟨rfl, six 0 (by decide)⟩, gq_pos ⟨rfl, six 1 (by decide)⟩, gq_pos ⟨rfl, six 2 (by decide)⟩, gq_pos (by decide), gq_pos ⟨rfl, six 3 (by decide)⟩, gq_pos ⟨rfl, six 4 (by decide)⟩, gq_pos ⟨rfl, six 5 (by decide)⟩, gq_pos kl, r1, r3, nI_add, nI_add, nI_add, r2, e1', ci_v, gq_pos j1.ge, e2, c0_v, gq_pos T0.k, e3, cr_v, e4, cr_v, gq_pos k4, e4', cr_v, gq_pos T4.k, e5, cr_v, gq_pos T5.k, e6, cr_v, gq_pos T6.k, e7, cr_v, e8, cr_v, gq_pos k8, e8', cr_v, gq_pos T8.k, e9, cr_v, gq_pos (by decide), gq_pos T9.k, e10, cr_v, gq_pos T10.k, e11, cr_v, gq_pos T11.k, e12, cr_v, e13, ci_v, gb_neg (by decide), gq_pos j13.k0, e14, ci_v, gb_pos rfl, gq_pos j14.k0, e15, ci_v, gb_pos nI_0, gq_pos j15.k0, e16, ci_v, gb_pos nI_0, gq_pos (by decide)]
    · rw [cN_cg (show rowU X.s 690 3 (cN X.s 3) (v6c (nI p) (nI u) (nI (1 + v)) (nI (1 + v % 100)) (-1) (nI (1 + v))) 4 = X.s 4 from rowU_lo (by decide) (by decide) (by decide))]; omega
end J8
