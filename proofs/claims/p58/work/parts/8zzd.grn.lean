/-! a World is grown -/
section G8
variable {sa sv d x b t : Nat} {m m' : am_M} {ow : Nat → Nat} {s : Nat → Int32} {q : Nat → Int64} {l : List Int32}
theorem XN.eb {n z : Nat} (h : XN m x t) (hb : SBv m b l) (e : Ex (SBp m b) n z m m') : XN m' x t := by
  obtain ⟨k1, k2, k3, k4, k5⟩ := hb.kb
  obtain ⟨n1, n2, n3, n4, n5, n6⟩ := h
  have np : ¬ SBp m b x := fun z => by
    rcases z with z | z
    · rw [z, k1] at n1
      exact absurd (congrArg (fun q => q.2) n1) (by show ¬ 13 = 12; decide)
    · rw [z] at n1
      rw [n1] at k4
      exact absurd k4 (by show ¬ 1 = 3; decide)
  have g := e.gt
  have rx := e.r n5 np
  have ix := e.i n5 np
  exact ⟨(e.k n5).trans n1, by rw [ix]; exact n2, by rw [rx, e.k n6]; exact n3, by rw [ix]; exact n4, by omega, by rw [rx]; omega⟩
theorem GS.next' {n : Nat} (h : GS sa m sv x b t ow s q l) (ht : t < 2 ^ 20) (h4 : 0 < n) (h5 : n < 2 ^ 31) : ∃ v, v < n ∧ am_ca sa sv (d + 3) 276 [.ref x, .int (nI n)] m = some (.inl (some (.int (nI v))), si_ m x 17 (nI (t + 1))) ∧ GS sa (si_ m x 17 (nI (t + 1))) sv x b (t + 1) ow s q l := by
  have hna := h.na
  have hnd := h.nd
  obtain ⟨v, hv, e⟩ := x276 (sa := sa) (sv := sv) (d := d) h.xn ht h4 h5
  have n1 := h.xn.1
  refine ⟨v, hv, e, ⟨h.ws.fld h.gl (by omega) (by omega) (by omega), h.xn.up, h.ks.six (by rw [n1]; exact ⟨by show ¬ 1 = 0; decide, by show ¬ 1 = 8; decide, by show ¬ 1 = 9; decide⟩), h.sb.six (fun z => ?_) (by rw [n1]; show ¬ 1 = 3; decide), h.gl, h.wg, h.sm, h.na, h.nd⟩⟩
  have := h.kb
  rw [← z, n1] at this
  exact absurd (congrArg (fun q => q.2) this) (by show ¬ 12 = 13; decide)
/-- one payee more -/
theorem GS.pay_ {v : Nat} (hW : WS m sv x ow (up1 s (8 + cN s 0) (nI v)) q) (hX : XN m x t) (hK : KS sa m sv) (hb : SBv m b l) (hg : GLm s) (hwg : WG 0 (up1 s (8 + cN s 0) (nI v)) q) (hna : cN s 2 ≤ 3) (hnd : cN s 3 ≤ 3) (h9 : cN s 0 < 10) (wg' : WG 0 (pyS s v) (pyQ s q (pv (cN s 0)))) (sm' : SM (pyS s v) (pyQ s q (pv (cN s 0)))) : GS sa (si_ m x 0 (nI (cN s 0 + 1))) sv x b t ow (pyS s v) (pyQ s q (pv (cN s 0))) l := by
  have eS : up1 (up1 s (8 + cN s 0) (nI v)) 0 (nI (cN s 0 + 1)) = pyS s v := funext fun k => by
    unfold pyS
    by_cases e0 : k = 0
    · rw [e0, up1_s, if_pos rfl]
    · rw [up1_o e0, if_neg e0]
      by_cases e1 : k = 8 + cN s 0
      · rw [e1, up1_s, if_pos rfl]
      · rw [up1_o e1, if_neg e1]
  have cu : ∀ k, ¬ k = 8 + cN s 0 → cN (up1 s (8 + cN s 0) (nI v)) k = cN s k := fun k hk => cN_cg (up1_o hk)
  have hG1 := hg.1
  have hgu : GLm (up1 s (8 + cN s 0) (nI v)) := by
    refine ⟨by rw [cu 1 (by omega)]; exact hG1, fun w hw => ?_⟩
    rw [cu 1 (by omega)] at hw
    rw [cu _ (by omega), cu _ (by omega)]
    exact hg.2 w hw
  have W1 := hW.own hwg.C hwg.1.2.1 hgu (by rw [cu 2 (by omega)]; omega) (by rw [cu 3 (by omega)]; omega) (c := 0) (k := 0) (v := nI (cN s 0 + 1)) (.inl ⟨rfl, rfl⟩)
  rw [eS] at W1
  have cp : ∀ k, ¬ k = 0 → ¬ k = 8 + cN s 0 → cN (pyS s v) k = cN s k := fun k h1 h2 => cN_cg ((if_neg h1).trans (if_neg h2))
  have hgp : GLm (pyS s v) := by
    refine ⟨by rw [cp 1 (by omega) (by omega)]; exact hG1, fun w hw => ?_⟩
    rw [cp 1 (by omega) (by omega)] at hw
    rw [cp _ (by omega) (by omega), cp _ (by omega) (by omega)]
    exact hg.2 w hw
  have c2 : cN (pyS s v) 2 = cN s 2 := cp 2 (by omega) (by omega)
  have c3 : cN (pyS s v) 3 = cN s 3 := cp 3 (by omega) (by omega)
  have W2 := W1.cgs (s' := pyS s v) (q' := pyQ s q (pv (cN s 0))) wg'.C wg'.1.2.1 hgp (by omega) (by omega) (fun _ _ => rfl) (fun k hk => if_neg (by omega)) rfl
  obtain ⟨n1, n2, n3, n4, n5, n6⟩ := hX
  have kb := hb.kb.1
  refine ⟨W2, ⟨n1, by rw [gi_si, if_neg (by omega)]; exact n2, n3, by rw [gi_si, if_neg (by omega)]; exact n4, n5, n6⟩, hK.six (by rw [n1]; exact ⟨by show ¬ 1 = 0; decide, by show ¬ 1 = 8; decide, by show ¬ 1 = 9; decide⟩), hb.six (fun z => ?_) (by rw [n1]; show ¬ 1 = 3; decide), hgp, wg', sm', by omega, by omega⟩
  rw [← z, n1] at kb
  exact absurd (congrArg (fun q => q.2) kb) (by show ¬ 12 = 13; decide)
theorem x285_29 {l0 : Nat} : ∀ (k : Nat) (m : am_M) (t : Nat) (ow : Nat → Nat) (s : Nat → Int32) (q : Nat → Int64) (l : List Int32), GS sa m sv x b t ow s q l → GT l s q → cN s 0 + k ≤ 5 → l.length + 21 * k ≤ 500 → t + 2 * k < 2 ^ 19 → ∃ m' t' s' q' l', r285 sa sv (d + 10) 29 [some (.ref l0), some (.ref x), some (.ref b), some (.int (nI k))] [] m = r285 sa sv (d + 10) 29 [some (.ref l0), some (.ref x), some (.ref b), some (.int (nI 0))] [] m' ∧ GS sa m' sv x b t' ow s' q' l' ∧ GT l' s' q' ∧ cN s' 0 = cN s 0 + k ∧ (∀ j, 1 ≤ j → j < 4 → s' j = s j) ∧ t' ≤ t + 2 * k ∧ l'.length ≤ l.length + 21 * k ∧ Ex (fun _ => True) (20 * k) (25000 * k) m m' := by
  intro k
  induction k with
  | zero =>
    intro m t ow s q l h hT _ _ _
    exact ⟨m, t, s, q, l, rfl, h, hT, rfl, fun _ _ _ => rfl, Nat.le_refl _, Nat.le_refl _, Ex.refl _ _⟩
  | succ k ih =>
    intro m t ow s q l h hT hc hl ht
    have hna := h.na
    have hnd := h.nd
    have l20 : (kb_ 20).length = 6 := by rw [kb20]; rfl
    have l21 : (kb_ 21).length = 7 := by rw [kb21]; rfl
    have lnp : ∀ p, (nm_ 9 p).length = 2 := fun p => nm_len (.inl rfl)
    obtain ⟨P1, e1, V1, f1⟩ := h.c (sa := sa) (d := d + 5) (i := 20) (by omega) (by omega)
    obtain ⟨P2', a, P2, e2, k2, e2', V2, f2⟩ := V1.p_ (sa := sa) (d := d + 3) (p := cN s 0) (by omega) (by rw [List.length_append]; omega)
    obtain ⟨v, P3, hv, e3, V3, f3⟩ := V2.next (sa := sa) (d := d + 7) (n := 3) (by omega) (by omega) (by omega)
    have n3 : (l ++ kb_ 20 ++ nm_ 9 (cN s 0)).length = l.length + 8 := by rw [List.length_append, List.length_append, l20, lnp]
    have fA := (f1.trans f2).trans f3
    have hle : ∀ ie, (ie = 7 ∨ ie = 8) → (kb_ ie).length ≤ 3 := fun ie hie => by
      rcases hie with y | y <;> rw [y]
      · exact Nat.le_refl _
      · show 1 ≤ 3
        omega
    have em : nI (k + 1) + (-1 : Int32) = nI k := by rw [nI_p_1 (by omega)]; rfl
    have nx : ∀ (M : am_M) (t1 : Nat) (l1 : List Int32), GS sa M sv x b t1 ow s q l1 → gi_ M x 0 = nI (cN s 0) := fun M t1 l1 hM => hM.np_
    have pcN : ∀ v, cN (pyS s v) 0 = cN s 0 + 1 := fun v => cN_ (if_pos rfl) (by omega)
    have plo : ∀ v j, 1 ≤ j → j < 4 → pyS s v j = s j := fun v j h1 h2 => (if_neg (by omega)).trans (if_neg (by omega))
    rw [b285_29, gb_neg (by rw [nI_le0 (by omega)]; omega), gq_pos h.kb, e1, cr_v, gq_pos V1.xn.1, nx P1 _ _ V1, e2, cr_v, gq_pos k2, e2', cr_v, gq_pos V2.xn.1, e3, ci_v, em]
    by_cases qv : v = 0
    · rw [gb_pos (by rw [qv]; rfl), gq_pos V3.kb]
      obtain ⟨P4, e4, V4, f4⟩ := V3.c (sa := sa) (d := d + 5) (i := 21) (by omega) (by omega)
      obtain ⟨u, hu, e5, V5⟩ := V4.next' (sa := sa) (d := d + 7) (n := 900) (by omega) (by omega) (by omega)
      have n4 : (l ++ kb_ 20 ++ nm_ 9 (cN s 0) ++ kb_ 21).length = l.length + 15 := by rw [List.length_append, l21, n3]
      have z6 : ¬ gr_ P4 x 6 = 0 := V4.ws.le.2.1.2.2
      have k6 : gk_ (si_ P4 x 17 (nI (t + 1 + 1))) (gr_ P4 x 6) = (2, 10) := V4.ws.le.1
      have r6 : gr_ (si_ P4 x 17 (nI (t + 1 + 1))) x 6 = gr_ P4 x 6 := rfl
      have fn : Ex (fun _ => True) 0 0 P4 (si_ P4 x 17 (nI (t + 1 + 1))) := (Ex.refl _ _).si (.inr trivial)
      have gn : gt_ (si_ P4 x 17 (nI (t + 1 + 1))) = gt_ P4 := rfl
      generalize si_ P4 x 17 (nI (t + 1 + 1)) = P5 at e5 V5 k6 r6 fn gn
      have h10 : cN s 0 < 10 := by omega
      have W6 := V5.ws.lea1 V5.wg.C V5.wg.1.2.1 V5.gl h10 (by omega) (by omega) (nI u)
      rw [r6] at W6
      have wg6 : WG 0 (up1 s (8 + cN s 0) (nI u)) q := V5.wg.least (cN s 0) u h10 (by omega)
      have l6 : gr_ P4 x 6 < gt_ P5 := by
        rw [gn]
        exact V4.ws.le.2.1.2.1
      have K6 : KS sa (si_ P5 (gr_ P4 x 6) (cN s 0) (nI u)) sv := V5.ks.six (by rw [k6]; exact ⟨by show ¬ 2 = 0; decide, by show ¬ 2 = 8; decide, by show ¬ 2 = 9; decide⟩)
      have B6 : SBv (si_ P5 (gr_ P4 x 6) (cN s 0) (nI u)) b (l ++ kb_ 20 ++ nm_ 9 (cN s 0) ++ kb_ 21) := V5.sb.six (fun z => by
        have := V5.kb
        rw [← z, k6] at this
        exact absurd (congrArg (fun q => q.1) this) (by show ¬ 2 = 1; decide)) (by rw [k6]; show ¬ 2 = 3; decide)
      have X6 : XN (si_ P5 (gr_ P4 x 6) (cN s 0) (nI u)) x (t + 1 + 1) := by
        obtain ⟨n1, n2, n3', n4', n5, n6⟩ := V5.xn
        have nx6 : ¬ x = gr_ P4 x 6 := fun z => by
          rw [← z, n1] at k6
          exact absurd (congrArg (fun q => q.1) k6) (by show ¬ 1 = 2; decide)
        exact ⟨n1, by rw [gi_si, if_neg (fun z => nx6 z.1)]; exact n2, n3', by rw [gi_si, if_neg (fun z => nx6 z.1)]; exact n4', n5, n6⟩
      have gu : GLm (up1 s (8 + cN s 0) (nI u)) := by
        have c : ∀ k, ¬ k = 8 + cN s 0 → cN (up1 s (8 + cN s 0) (nI u)) k = cN s k := fun k hk => cN_cg (up1_o hk)
        have hG1 := V5.gl.1
        refine ⟨by rw [c 1 (by omega)]; exact hG1, fun w hw => ?_⟩
        rw [c 1 (by omega)] at hw
        rw [c _ (by omega), c _ (by omega)]
        exact V5.gl.2 w hw
      have u2 : cN (up1 s (8 + cN s 0) (nI u)) 2 = cN s 2 := cN_cg (up1_o (by omega))
      have u3 : cN (up1 s (8 + cN s 0) (nI u)) 3 = cN s 3 := cN_cg (up1_o (by omega))
      obtain ⟨P6, e6, K7, B7, y6⟩ := st_n (sa := sa) (d := d + 5) K6 B6 (n := u) (by omega) (by rw [n4]; have := (dg_len (n := u)).2; omega)
      have W7 := (W6.eb gu (by omega) (by omega) B6 K6 y6.1).2
      have X7 := X6.eb B6 y6.1
      have hT8 := hT.p1 (by omega) (v := u) (by omega) (ie := 8) (.inr rfl)
      have G8 := GS.pay_ (v := u) W7 X7 K7 B7 V5.gl wg6 hna hnd h10 hT8.wg hT8.sm
      have np6 : gi_ P6 x 0 = nI (cN s 0) := by rw [W7.np, up1_o (by omega), ((wc_np h.wg.C).c (by decide)).1]
      have hd := dg_len3 (show u < 1000 by omega)
      obtain ⟨ie, P7, hie, e7, V7, f7⟩ := G8.end_ (sa := sa) (d := d + 4) (by rw [List.length_append]; omega)
      have hh := hT.p1 (by omega) (v := u) (by omega) hie
      have := hle ie hie
      have el : l ++ kb_ 20 ++ nm_ 9 (cN s 0) ++ kb_ 21 ++ dg_ u ++ kb_ ie = l ++ (kb_ 20 ++ (nm_ 9 (cN s 0) ++ (kb_ 21 ++ (dg_ u ++ kb_ ie)))) := by simp only [List.append_assoc]
      rw [el] at V7
      have nl : (l ++ (kb_ 20 ++ (nm_ 9 (cN s 0) ++ (kb_ 21 ++ (dg_ u ++ kb_ ie))))).length ≤ l.length + 21 := by
        rw [← el, List.length_append, List.length_append]
        omega
      obtain ⟨m', t', s', q', l', r1, r2, r3, r4, r5, r6', r7, r8⟩ := ih P7 (t + 1 + 1) ow _ _ _ V7 hh (by rw [pcN]; omega) (by omega) (by omega)
      have y5 : Ex (fun _ => True) 0 0 P5 (si_ P5 (gr_ P4 x 6) (cN s 0) (nI u)) := (Ex.refl _ _).si (.inr trivial)
      have y7 : Ex (fun _ => True) 0 0 P6 (si_ P6 x 0 (nI (cN s 0 + 1))) := (Ex.refl _ _).si (.inr trivial)
      have y6' := y6.1.mono (P' := fun _ => True) (fun _ _ _ => trivial) (Nat.le_refl _) (Nat.le_refl _)
      refine ⟨m', t', s', q', l', ?_, r2, r3, by rw [r4, pcN]; omega, fun j h1 h2 => (r5 j h1 h2).trans (plo _ j h1 h2), by omega, by omega, (((((((fA.tr.trans f4.tr (fun _ _ z => z)).trans fn (fun _ _ z => z)).trans y5 (fun _ _ z => z)).trans y6' (fun _ _ z => z)).trans y7 (fun _ _ z => z)).trans f7.tr (fun _ _ z => z)).trans r8 (fun _ _ z => z)).mono (fun _ _ z => z) (by omega) (by omega)⟩
      rw [e4, cr_v, gq_pos ⟨V4.xn.1, z6⟩, gq_pos V4.xn.1, gq_pos V4.xn.1, e5, ci_v, k6, nx P4 _ _ V4, gq_pos ⟨rfl, in_of h10 (by omega)⟩, gq_pos V5.kb, nI_clamp (show cN s 0 < 2 ^ 31 by omega), e6, cr_v, gq_pos W7.k, gq_pos W7.k, gq_pos W7.k, np6, nI_add, e7, c0_v]
      exact r1
    · rw [gb_neg (by rw [nI_eq0 (by omega)]; exact qv), gq_pos V3.xn.1, gq_pos V3.xn.1, gq_pos V3.xn.1, nx P3 _ _ V3, nI_add]
      have hT8 := hT.p0 (by omega) (ie := 8) (.inr rfl)
      have e0 : up1 s (8 + cN s 0) (nI 0) = s := funext fun j => by
        by_cases e : j = 8 + cN s 0
        · rw [e, up1_s, h.sm.2.2.2 _ (Nat.le_refl _) (by omega)]
          rfl
        · exact up1_o e
      have G4 := GS.pay_ (v := 0) (by rw [e0]; exact V3.ws) V3.xn V3.ks V3.sb V3.gl (by rw [e0]; exact V3.wg) hna hnd (by omega) hT8.wg hT8.sm
      obtain ⟨ie, P5, hie, e5, V5, f5⟩ := G4.end_ (sa := sa) (d := d + 4) (by omega)
      have hh := hT.p0 (by omega) hie
      have := hle ie hie
      have el : l ++ kb_ 20 ++ nm_ 9 (cN s 0) ++ kb_ ie = l ++ (kb_ 20 ++ (nm_ 9 (cN s 0) ++ kb_ ie)) := by simp only [List.append_assoc]
      rw [el] at V5
      have nl : (l ++ (kb_ 20 ++ (nm_ 9 (cN s 0) ++ kb_ ie))).length ≤ l.length + 11 := by
        rw [← el, List.length_append]
        omega
      obtain ⟨m', t', s', q', l', r1, r2, r3, r4, r5, r6, r7, r8⟩ := ih P5 (t + 1) ow _ _ _ V5 hh (by rw [pcN]; omega) (by omega) (by omega)
      have y3 : Ex (fun _ => True) 0 0 P3 (si_ P3 x 0 (nI (cN s 0 + 1))) := (Ex.refl _ _).si (.inr trivial)
      refine ⟨m', t', s', q', l', ?_, r2, r3, by rw [r4, pcN]; omega, fun j h1 h2 => (r5 j h1 h2).trans (plo _ j h1 h2), by omega, by omega, (((fA.tr.trans y3 (fun _ _ z => z)).trans f5.tr (fun _ _ z => z)).trans r8 (fun _ _ z => z)).mono (fun _ _ z => z) (by omega) (by omega)⟩
      rw [e5, c0_v]
      exact r1
end G8
