/-! the generator's work: it is added -/
section G8
variable {sa sv d x b t w : Nat} {m m' : am_M} {ow : Nat → Nat} {s : Nat → Int32} {q q' : Nat → Int64} {l : List Int32}
/-- rows of a work that is new -/
def NW (s s' : Nat → Int32) (w : Nat) (L : List (Nat × Nat)) : Prop := (∀ k, k < 18 + 48 * w → ¬ k = 1 → s' k = s k) ∧ (∀ k, 66 + 48 * w ≤ k → s' k = s k) ∧ s' 1 = nI (w + 1) ∧ s' (18 + 48 * w) = nI 1 ∧ s' (19 + 48 * w) = nI 0 ∧ s' (23 + 48 * w) = nI L.length ∧ ∀ j y, L[j]? = some y → s' (27 + 48 * w + j) = nI y.1 ∧ s' (43 + 48 * w + j) = nI y.2
def own2 (ow : Nat → Nat) (G w o a0 a1 r rs e0 e1 y : Nat) : Nat := if y < G then ow y else if y = o then 100 + 10 * w else if y = a0 then 101 + 10 * w else if y = a1 then 103 + 10 * w else if y = r then 105 + 10 * w else if y = rs then 107 + 10 * w else if y = e0 then 102 + 10 * w else if y = e1 then 104 + 10 * w else 300
theorem x282_130 {G o to a0 a1 c1 : Nat} {Lo : List Nat} (h : GS sa m sv x b t ow s q l) (h3 : ∀ y, G ≤ y → 300 ≤ ow y) (hGm : G ≤ gt_ m) (hG0 : 0 < G) (hwd : cN s 1 = w) (hw3 : w < 4) (ko : gk_ m o = (1, 11)) (hoG : G ≤ o) (hol : o < gt_ m) (hto : gk_ m to = (11, 1)) (htol : to < gt_ m) (r0 : gr_ m o 0 = a0) (r1 : gr_ m o 1 = a1) (hc0 : LC m sv a0 0 []) (ha0 : G ≤ a0) (hc1 : LC m sv a1 c1 Lo) (ha1 : G ≤ a1) (ha01 : ¬ a0 = a1) (he1 : (gk_ m (gr_ m a1 1)).1 = 10 → G ≤ gr_ m a1 1) (hLo : Lo.length < 2) (hrs : ∀ i, i < Lo.length → gk_ m (Lo.getD i 0) = (2, 2) ∧ G ≤ Lo.getD i 0 ∧ Lo.getD i 0 < gt_ m) (hnp : 1 ≤ cN s 0) (h2 : l.length + 160 ≤ 1000) (ht : t + 60 < 2 ^ 20) (hq : ∀ k, k < 50 → q' k = q k) (S : List (Nat × Nat) → Nat → Int32) (hS : ∀ L, ¬ L = [] → L.length ≤ 4 → GSh s L → lsum L = 100 → NW s (S L) w L ∧ cN (S L) (59 + 48 * w) = Lo.length ∧ (∀ i j, i < Lo.length → j < 2 → gi_ m (Lo.getD i 0) j = S L (60 + 48 * w + 3 * j + i)) ∧ ∀ ie, (ie = 7 ∨ ie = 8) → GT (l ++ (kb_ 11 ++ bts L) ++ kb_ ie) (S L) q') (o5 o6 : Option Value) : ∃ m' t' ow' s' l', r282 sa sv (d + 9) 130 [some (.ref x), some (.ref b), some (.int (nI w)), some (.ref o), some (.ref to), o5, o6] [] m = some (.inl none, m') ∧ GS sa m' sv x b t' ow' s' q' l' ∧ GT l' s' q' ∧ (∀ y, y < G → ow' y = ow y) ∧ (∀ y, gt_ m' ≤ y → 300 ≤ ow' y) ∧ t' ≤ t + 30 ∧ l'.length ≤ l.length + 107 ∧ (∀ k, k < 18 → ¬ k = 1 → s' k = s k) ∧ cN s' 1 = w + 1 ∧ Ex (fun _ => True) 220 230000 m m' := by
  have hG1 := h.gl.1
  have hC := h.wg.C
  have hW := h.wg.1.2.1
  have hna := h.na
  have hnd := h.nd
  have ks := h.ks.2.1
  have hsl := h.ks.1
  have no : ∀ y, ¬ NoP y := fun _ y => y
  obtain ⟨m6, L, t6, r, e6, G6, b1, b2, b3, b4, b5, b6, b7, b8, b9, b10, b11, f6⟩ := x280 (sa := sa) (d := d + 1) h (fun y hy => h3 y (by omega)) hto htol hnp h.sm.1.2.2.1 (by omega) (by omega)
  obtain ⟨⟨w1, w2, w3, w4, w5, w6, w7⟩, hs59, hsrc, hGT⟩ := hS L b1 b2 b3 b4
  have hx := h.xn.1
  have kSto : ∀ y, y = to → (gk_ m y).1 = 11 := fun y hy => by rw [hy, hto]
  obtain ⟨hc0', ra0⟩ := hc0.gs f6 h.sb hx ks hsl kSto
  obtain ⟨hc1', ra1⟩ := hc1.gs f6 h.sb hx ks hsl kSto
  obtain ⟨ko6', _, ro6⟩ := f6.keep2 h.sb (by rw [ko]; decide) (by rw [ko]; decide) (by rw [ko]; show ¬ 1 = 3; decide) hx hol (fun z => by rw [z, hto] at ko; exact absurd (congrArg (fun q => q.1) ko) (by show ¬ 11 = 1; decide))
  have ko6 : gk_ m6 o = (1, 11) := ko6'.trans ko
  have g6 := f6.1.gt
  have hsl6 : sv < gt_ m6 := by omega
  have ks6 : gk_ m6 sv = (0, 0) := G6.ks.2.1
  have kt6 : gk_ m6 to = (11, 1) := (f6.1.k htol).trans hto
  have k40 : gk_ m6 (gr_ m6 a0 1) = (13, 0) := by
    rcases hc0'.2.2.2.1 with y | y
    · exact y.2.2
    · have := y.2
      omega
  have hr0 : ¬ r = 0 := by omega
  have hel : am_el m6 10 r ∧ r < gt_ m6 := ⟨⟨hr0, .inr (.inl ⟨rfl, .inr (.inl (by rw [b7]))⟩)⟩, b9⟩
  obtain ⟨m7, e7, l7, x7⟩ := x238 (sa := sa) (sv := sv) (d := d + 3) ⟨0, hc0'⟩ hel (by show 0 < 100; omega)
  have hP : ∀ y, LPa m6 a0 y → y = a0 := fun y z => by
    rcases z with z | ⟨z, z2⟩
    · exact z
    · rw [z, k40] at z2
      exact absurd z2 (by show ¬ 13 = 10; decide)
  have x7e : Ex (fun y => y = a0) 1 160 m6 m7 := x7.1.mono (fun y _ z => hP y z) (Nat.le_refl _) (Nat.le_refl _)
  have g7 := x7e.gt
  have oa0 : 300 ≤ ow a0 := h3 a0 ha0
  have nsa : ¬ sv = a0 := fun z => by
    have := hc0'.1
    rw [← z, ks6] at this
    exact absurd (congrArg (fun q => q.1) this) (by show ¬ 0 = 1; decide)
  have W7 : WS m7 sv x ow s q := G6.ws.xt (T := fun y => 300 ≤ y) ⟨x7e, fun y _ z _ => by rw [z]; exact oa0, fun _ _ => rfl, x7e.r hsl6 nsa⟩ (fun t y => y) (by omega) h.gl.2 (by omega) (by omega)
  obtain ⟨R7a, R7b, R7c⟩ := G6.rest x7e (fun y _ z => .inr (.inr (.inr (.inl (by rw [z]; exact hc0'.1)))))
  have G7 : GS sa m7 sv x b t6 ow s q (l ++ (kb_ 11 ++ bts L)) := ⟨W7, R7a, R7b, R7c, h.gl, h.wg, h.sm, hna, hnd⟩
  -- what stands at m7
  have st7 : ∀ y, y < gt_ m6 → ¬ y = a0 → gk_ m7 y = gk_ m6 y ∧ gi_ m7 y = gi_ m6 y ∧ gr_ m7 y = gr_ m6 y := fun y hy hn => ⟨x7e.k hy, x7e.i hy hn, x7e.r hy hn⟩
  have kne : ∀ {y : Nat} {k : Nat × Nat}, gk_ m6 y = k → ¬ k = (1, 15) → ¬ y = a0 := fun e1 e2 z => e2 (by rw [← e1, z]; exact hc0'.1)
  have hol6 : o < gt_ m6 := by omega
  obtain ⟨ko7', _, ro7⟩ := st7 o hol6 (kne ko6 (by decide))
  have ko7 : gk_ m7 o = (1, 11) := ko7'.trans ko6
  obtain ⟨kr7', ir7, _⟩ := st7 r b9 (kne b7 (fun z => absurd (congrArg (fun q => q.1) z) (by show ¬ 2 = 1; decide)))
  have kr7 : gk_ m7 r = (2, 2 * L.length + 1) := kr7'.trans b7
  have ha1l : a1 < gt_ m6 := hc1'.2.2.2.2.2.2.2.2.1
  obtain ⟨ka17, ia17, ra17⟩ := st7 a1 ha1l (fun z => ha01 z.symm)
  have kea : (gk_ m6 (gr_ m6 a1 1)).1 = 13 ∨ (gk_ m6 (gr_ m6 a1 1)).1 = 10 := by
    rcases hc1'.2.2.2.1 with y | y
    · rw [y.2.2]
      exact .inl rfl
    · rw [y.1]
      exact .inr rfl
  have nea : ¬ gr_ m6 a1 1 = a0 := fun z => by
    rw [z, hc0'.1] at kea
    exact absurd kea (by show ¬ (1 = 13 ∨ 1 = 10); decide)
  have hel1 : gr_ m6 a1 1 < gt_ m6 := hc1'.2.2.2.2.2.2.2.2.2.1
  obtain ⟨ke17, _, re17⟩ := st7 _ hel1 nea
  have hc17 : LC m7 sv a1 c1 Lo := hc1'.st (fun y hy => x7e.k hy) g7 x7e.ge ⟨ia17, ra17⟩ re17 (x7e.r hsl6 nsa)
  have srow : ∀ i, i < Lo.length → gk_ m7 (Lo.getD i 0) = (2, 2) ∧ gi_ m7 (Lo.getD i 0) = gi_ m (Lo.getD i 0) ∧ G ≤ Lo.getD i 0 ∧ Lo.getD i 0 < gt_ m := fun i hi => by
    obtain ⟨y1, y2, y3⟩ := hrs i hi
    obtain ⟨z1, z2, z3⟩ := f6.keep2 h.sb (r := Lo.getD i 0) (by rw [y1]; decide) (by rw [y1]; decide) (by rw [y1]; show ¬ 2 = 3; decide) hx y3 (fun z => by rw [z, hto] at y1; exact absurd (congrArg (fun q => q.1) y1) (by show ¬ 11 = 2; decide))
    obtain ⟨u1, u2, u3⟩ := st7 (Lo.getD i 0) (by omega) (kne (z1.trans y1) (by decide))
    exact ⟨u1.trans (z1.trans y1), u2.trans z2, y2, y3⟩
  obtain ⟨c7, hc07⟩ := l7
  -- the tags
  have hRT : RT m7 ow (own2 ow G w o a0 a1 r (Lo.getD 0 0) (gr_ m7 a0 1) (gr_ m7 a1 1)) := fun y _ hy => by
    have : y < G := by
      by_cases hyG : y < G
      · exact hyG
      · have := h3 y (by omega)
        omega
    exact if_pos this
  have G8 := G7.rt hRT
  have noa : ¬ o = a0 := kne ko6 (by decide)
  have noa1 : ¬ o = a1 := fun z => by
    have := hc1'.1
    rw [← z, ko6] at this
    exact absurd this (by decide)
  have nra0 : ¬ r = a0 := kne b7 (fun z => absurd (congrArg (fun q => q.1) z) (by show ¬ 2 = 1; decide))
  have nra1 : ¬ r = a1 := fun z => by
    have := hc1'.1
    rw [← z, b7] at this
    exact absurd (congrArg (fun q => q.1) this) (by show ¬ 2 = 1; decide)
  have nro : ¬ r = o := fun z => by
    rw [← z, b7] at ko6
    exact absurd (congrArg (fun q => q.1) ko6) (by show ¬ 2 = 1; decide)
  have rs7 : gr_ m7 sv = gr_ m6 sv := x7e.r hsl6 nsa
  have tg : ∀ y, G ≤ y → own2 ow G w o a0 a1 r (Lo.getD 0 0) (gr_ m7 a0 1) (gr_ m7 a1 1) y = if y = o then 100 + 10 * w else if y = a0 then 101 + 10 * w else if y = a1 then 103 + 10 * w else if y = r then 105 + 10 * w else if y = Lo.getD 0 0 then 107 + 10 * w else if y = gr_ m7 a0 1 then 102 + 10 * w else if y = gr_ m7 a1 1 then 104 + 10 * w else 300 := fun y hy => if_neg (by omega)
  have to_ := tg o hoG
  rw [if_pos rfl] at to_
  have ta0 := tg a0 ha0
  rw [if_neg (fun z => noa z.symm), if_pos rfl] at ta0
  have ta1 := tg a1 ha1
  rw [if_neg (fun z => noa1 z.symm), if_neg (fun z => ha01 z.symm), if_pos rfl] at ta1
  have tr_ := tg r (by omega)
  rw [if_neg nro, if_neg nra0, if_neg nra1, if_pos rfl] at tr_
  have trs : ∀ i, i < Lo.length → own2 ow G w o a0 a1 r (Lo.getD 0 0) (gr_ m7 a0 1) (gr_ m7 a1 1) (Lo.getD i 0) = 107 + 10 * w + i := fun i hi => by
    have hi0 : i = 0 := by omega
    subst hi0
    obtain ⟨y1, y2, y3, y4⟩ := srow 0 hi
    rw [tg _ y3, if_neg (fun z => ?_), if_neg (fun z => ?_), if_neg (fun z => ?_), if_neg (by omega), if_pos rfl]
    · rfl
    · rw [z, ka17, hc1'.1] at y1
      exact absurd y1 (by decide)
    · rw [z, x7e.k hc0'.2.2.2.2.2.2.2.2.1, hc0'.1] at y1
      exact absurd y1 (by decide)
    · rw [z, ko7] at y1
      exact absurd y1 (by decide)
  have te0 : (gk_ m7 (gr_ m7 a0 1)).1 = 10 → own2 ow G w o a0 a1 r (Lo.getD 0 0) (gr_ m7 a0 1) (gr_ m7 a1 1) (gr_ m7 a0 1) = 102 + 10 * w := fun hk => by
    have hge : gt_ m6 ≤ gr_ m7 a0 1 := by
      rcases x7.2 with y | y
      · rw [y, x7e.k hc0'.2.2.2.2.2.2.2.2.2.1, k40] at hk
        exact absurd hk (by show ¬ 13 = 10; decide)
      · exact y
    have hal : a0 < gt_ m6 := hc0'.2.2.2.2.2.2.2.2.1
    rw [tg _ (by omega), if_neg (by omega), if_neg (by omega), if_neg (by omega), if_neg (by omega), if_neg (fun z => ?_), if_pos rfl]
    by_cases hl0 : 0 < Lo.length
    · have := (srow 0 hl0).2.2.2
      omega
    · have e : Lo = [] := List.length_eq_zero_iff.mp (by omega)
      rw [e] at z
      have z : gr_ m7 a0 1 = 0 := z
      omega
  have te1 : (gk_ m7 (gr_ m7 a1 1)).1 = 10 → own2 ow G w o a0 a1 r (Lo.getD 0 0) (gr_ m7 a0 1) (gr_ m7 a1 1) (gr_ m7 a1 1) = 104 + 10 * w := fun hk => by
    have hk2 := hk
    rw [ra17, ke17] at hk
    have hm1 : gr_ m6 a1 1 = gr_ m a1 1 := by rw [ra1]
    have hlm : gr_ m a1 1 < gt_ m := hc1.2.2.2.2.2.2.2.2.2.1
    have hkm : (gk_ m (gr_ m a1 1)).1 = 10 := by
      rw [hm1, f6.1.k hlm] at hk
      exact hk
    have hGe := he1 hkm
    have e71 : gr_ m7 a1 1 = gr_ m a1 1 := by rw [ra17, hm1]
    have kk7 : ∀ {y : Nat} {k : Nat × Nat}, gk_ m7 y = k → ¬ k.1 = 10 → ¬ gr_ m7 a1 1 = y := fun e1 e2 z => e2 (by rw [← e1, ← z]; exact hk2)
    rw [tg _ (by omega), if_neg (kk7 ko7 (by show ¬ 1 = 10; decide)), if_neg (kk7 (y := a0) (k := (1, 15)) ((x7e.k hc0'.2.2.2.2.2.2.2.2.1).trans hc0'.1) (by show ¬ 1 = 10; decide)), if_neg (kk7 (ka17.trans hc1'.1) (by show ¬ 1 = 10; decide)), if_neg (kk7 kr7 (by show ¬ 2 = 10; decide)), if_neg (fun z => ?_), if_neg (fun z => ?_), if_pos rfl]
    · have hk0 : (gk_ m7 (gr_ m7 a0 1)).1 = 10 := by rw [← z]; exact hk2
      rcases x7.2 with y | y
      · rw [y, x7e.k hc0'.2.2.2.2.2.2.2.2.2.1, k40] at hk0
        exact absurd hk0 (by show ¬ 13 = 10; decide)
      · omega
    · by_cases hl0 : 0 < Lo.length
      · exact kk7 (srow 0 hl0).1 (by show ¬ 2 = 10; decide) z
      · have e : Lo = [] := List.length_eq_zero_iff.mp (by omega)
        rw [e] at z
        have z : gr_ m7 a1 1 = 0 := z
        omega
  have hlo1 : ∀ y, y < G → own2 ow G w o a0 a1 r (Lo.getD 0 0) (gr_ m7 a0 1) (gr_ m7 a1 1) y = ow y := fun y hy => if_pos hy
  generalize own2 ow G w o a0 a1 r (Lo.getD 0 0) (gr_ m7 a0 1) (gr_ m7 a1 1) = ow1 at hRT G8 tg to_ ta0 ta1 tr_ trs te0 te1 hlo1
  have ra07 : gr_ m7 o 0 = a0 := by rw [ro7, ro6, r0]
  have ra17' : gr_ m7 o 1 = a1 := by rw [ro7, ro6, r1]
  have ha0l : a0 < gt_ m7 := hc07.2.2.2.2.2.2.2.2.1
  have hO : WO m7 sv ow1 o w (S L) := by
    refine ⟨ko7, ⟨to_, by omega, by omega⟩, ⟨[r], ?_, by rw [cN_ w4 (by omega)]; rfl, fun k hk => ?_⟩, ⟨Lo, ?_, hs59.symm, fun i hi => ?_⟩⟩
    · rw [ra07]
      exact ⟨⟨c7, hc07⟩, ⟨ta0, ha0l, by omega⟩, fun hk => by rw [te0 hk]; omega⟩
    · have hk0 : k = 0 := by
        have : k < 1 := hk
        omega
      subst hk0
      show RW m7 ow1 r _ _ _
      rw [show 23 + 48 * w + 0 = 23 + 48 * w by omega, cN_ w6 (by omega)]
      refine ⟨kr7, ⟨by rw [tr_]; omega, by omega, hr0⟩, fun j hj => ?_⟩
      show gi_ m7 r j = (if j = 0 then S L (19 + 48 * w + 0) else if j % 2 = 1 then S L (27 + 48 * w + 4 * 0 + j / 2) else S L (43 + 48 * w + 4 * 0 + (j / 2 - 1)))
      rw [ir7]
      by_cases e0 : j = 0
      · rw [if_pos e0, e0, b10.1, show 19 + 48 * w + 0 = 19 + 48 * w by omega, w5]
        rfl
      · rw [if_neg e0]
        by_cases eo : j % 2 = 1
        · rw [if_pos eo]
          have hjl : j / 2 < L.length := by omega
          have hy : L[j / 2]? = some L[j / 2] := List.getElem?_eq_getElem hjl
          have u1 := (b10.2 _ _ hy).1
          rw [show 2 * (j / 2) + 1 = j by omega] at u1
          rw [u1, show 27 + 48 * w + 4 * 0 + j / 2 = 27 + 48 * w + j / 2 by omega, (w7 _ _ hy).1]
        · rw [if_neg eo]
          have hjl : j / 2 - 1 < L.length := by omega
          have hy : L[j / 2 - 1]? = some L[j / 2 - 1] := List.getElem?_eq_getElem hjl
          have u1 := (b10.2 _ _ hy).2
          rw [show 2 * (j / 2 - 1) + 2 = j by omega] at u1
          rw [u1, show 43 + 48 * w + 4 * 0 + (j / 2 - 1) = 43 + 48 * w + (j / 2 - 1) by omega, (w7 _ _ hy).2]
    · rw [ra17']
      exact ⟨⟨c1, hc17⟩, ⟨ta1, by omega, by omega⟩, fun hk => by rw [te1 hk]; omega⟩
    · obtain ⟨y1, y2, y3, y4⟩ := srow i hi
      exact ⟨y1, ⟨trs i hi, by omega, by omega⟩, fun j hj => by rw [y2]; exact hsrc i j hi hj⟩
  -- the works' list
  obtain ⟨L1, a1', a2', a3'⟩ := G8.ws.wk
  have hlL : L1.length = w := by omega
  have helo : am_el m7 10 o ∧ o < gt_ m7 := ⟨⟨by omega, .inr (.inl ⟨rfl, .inl (by rw [ko7]; exact ⟨rfl, by show 11 < 17; omega⟩)⟩)⟩, by omega⟩
  have ks7 := G8.ks.2.1
  have hsl7 := G8.ks.1
  obtain ⟨m8, e8, LW8, X8⟩ := a1'.app (sa := sa) (d := d + 3) helo (by omega) ks7 hsl7
  have a1'' := a1'
  obtain ⟨⟨c8, hc8⟩, tg8, _⟩ := a1''
  have hT : ∀ u, (u = 1 ∨ u = 1 + 1) → 1 ≤ u ∧ u < 3 := fun u hu => by omega
  have nT : ∀ u, (u < 1 ∨ 3 ≤ u) → ¬ (u = 1 ∨ u = 1 + 1) := fun u h1 h2 => by omega
  have hnh : ∀ v k, v < cN s 1 → k < cN s (18 + 48 * v) → cN s (23 + 48 * v + k) < 5 := fun v k h1 h2 => ((ww_nh hW v k h1 h2).1.c (by decide)).2
  have cS1 : cN (S L) 1 = w + 1 := cN_ w3 (by omega)
  have cS18 : cN (S L) (18 + 48 * w) = 1 := cN_ w4 (by omega)
  have cS19 : cN (S L) (19 + 48 * w) = 0 := cN_ w5 (by omega)
  have hlo18 : ∀ k, k < 18 → ¬ k = 1 → S L k = s k := fun k h1 h2 => w1 k (by omega) h2
  generalize hW8 : owe ow1 (gt_ m7) (gr_ m8 (gr_ m7 x 3) 1) (1 + 1) = ow2 at LW8 X8
  have W9 : WS m8 sv x ow2 (S L) q' := by
    refine G8.ws.grow X8 (fun u hu => by have := hT u hu; omega) (fun k hk h1 _ _ => hlo18 k hk h1) hq ⟨L1 ++ [o], LW8, by rw [List.length_append, hlL, cS1]; rfl, fun v hv => ?_⟩ (G8.ws.asx X8 (fun u hu => by have := hT u hu; omega) (by omega) (fun k hk => by
      rcases hk with hk | hk
      · rw [hk]; exact hlo18 2 (by omega) (by omega)
      · exact w2 k (by omega))) (G8.ws.adx X8 (fun u hu => by have := hT u hu; omega) (by omega) (fun k hk => by
      rcases hk with hk | hk
      · rw [hk]; exact hlo18 3 (by omega) (by omega)
      · exact w2 k (by omega)))
    rw [List.length_append, hlL] at hv
    have hv : v < w + 1 := hv
    by_cases ev : v < w
    · obtain ⟨y1, y2⟩ := h.gl.2 v (by omega)
      rw [app_n, if_pos (by omega)]
      refine ((a3' v (by omega)).xt X8 (fun k hk => nT _ (by omega)) y1 y2).cg2 (by omega) (by omega) (fun k hk => hnh v k (by omega) hk) (fun k h1 h2 => ?_)
      exact w1 k (by omega) (by omega)
    · have ev1 : v = w := by omega
      rw [app_n, if_neg (by omega), show v - L1.length = 0 by omega, ev1]
      exact hO.xt X8 (fun k hk => nT _ (by omega)) (by omega) (by omega)
  obtain ⟨R9a, R9b, R9c⟩ := G8.rest X8.1 (LPa_k a1')
  have hgl : GLm (S L) := by
    refine ⟨by omega, fun v hv => ?_⟩
    rw [cS1] at hv
    by_cases ev : v = w
    · rw [ev, cS18, hs59]
      omega
    · have c : ∀ k, k < 18 + 48 * w → ¬ k = 1 → cN (S L) k = cN s k := fun k h1 h2 => cN_cg (w1 k h1 h2)
      rw [c _ (by omega) (by omega), c _ (by omega) (by omega)]
      exact h.gl.2 v (by omega)
  have hT8 := hGT 8 (.inr rfl)
  have G9 : GS sa m8 sv x b t6 ow2 (S L) q' (l ++ (kb_ 11 ++ bts L)) := ⟨W9, R9a, R9b, R9c, hgl, hT8.wg, hT8.sm, by rw [cN_cg (hlo18 2 (by omega) (by omega))]; exact hna, by rw [cN_cg (hlo18 3 (by omega) (by omega))]; exact hnd⟩
  have l11 : (kb_ 11).length = 3 := by rw [kb11]; rfl
  have hlen : (l ++ (kb_ 11 ++ bts L)).length ≤ l.length + 31 := by
    rw [List.length_append, List.length_append, l11]
    omega
  obtain ⟨ie, m9, hie, e9, G10, f10⟩ := G9.end_ (sa := sa) (d := d + 3) (by omega)
  have hle : (kb_ ie).length ≤ 3 := by
    rcases hie with y | y <;> rw [y]
    · exact Nat.le_refl _
    · show 1 ≤ 3
      omega
  have g8 := X8.1.gt
  have g10 := f10.1.gt
  have ow2h : ∀ y, gt_ m9 ≤ y → 300 ≤ ow2 y := fun y hy => by
    rw [← hW8]
    unfold owe
    have hlt : gr_ m8 (gr_ m7 x 3) 1 < gt_ m8 := by
      obtain ⟨⟨c', hc'⟩, _⟩ := LW8
      exact hc'.2.2.2.2.2.2.2.2.2.1
    rw [if_neg (by omega), if_neg (by omega)]
    exact Nat.le_refl _
  obtain ⟨m', e10, t', ow', s', l', r2, r3, r4, r5, r6, r7, r8, r9⟩ := x282_t (sa := sa) (d := d) (w := w) G10 (hGT ie hie) ow2h (by omega) cS18 cS19 (by omega) (by rw [cN_cg (hlo18 0 (by omega) (by omega))]; exact hnp) (by rw [List.length_append]; omega) (by omega)
  refine ⟨m', t', ow', s', l', ?_, r2, r3, fun y hy => ?_, r5, by omega, by rw [List.length_append] at r7; omega, fun k h1 h2 => (r8 k h1).trans (hlo18 k h1 h2), by rw [cN_cg (r8 1 (by omega)), cS1], ?_⟩
  · rw [b282_130, gq_pos hx, e6, c0_v, gq_pos ⟨ko6, by rw [ro6, r0]; omega⟩, kt6, nI_clamp (show 0 < 2 ^ 31 by omega), b6, gq_pos ⟨.inr (.inr (.inl rfl)), in_of (show 0 < 1 by omega) (by omega), hr0⟩, gq_pos (by rw [ro6, r0]; exact hc0'.1), ro6, r0, e7, ci_v, gq_pos ⟨G7.xn.1, tg8.2.2⟩, gq_pos hc8.1, e8, ci_v, gq_pos G9.xn.1, e9, c0_v]
    exact e10
  · rw [r4 y (by omega), X8.2.2.1 y (by omega)]
    exact hlo1 y hy
  · have y7 := x7e.mono (P' := fun _ => True) (fun _ _ _ => trivial) (Nat.le_refl _) (Nat.le_refl _)
    have y8 := X8.1.mono (P' := fun _ => True) (fun _ _ _ => trivial) (Nat.le_refl _) (Nat.le_refl _)
    exact ((((f6.tr.trans y7 (fun _ _ z => z)).trans y8 (fun _ _ z => z)).trans f10.tr (fun _ _ z => z)).trans r9 (fun _ _ z => z)).mono (fun _ _ z => z) (by omega) (by omega)
end G8
