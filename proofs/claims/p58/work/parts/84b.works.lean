/-! all of it stays so behind a split, a source, a work more -/
section W84
variable {s s' : Nat → Int32} {q q' : Nat → Int64} {L : List (Nat × Nat)} {B : Nat}
theorem WG.row (h : WG B s q) {w : Nat} (hw : w < cN s 1) (hP : PW s' w) (hk : ∀ k, ¬ (18 + 48 * w ≤ k ∧ k < 66 + 48 * w) → s' k = s k) : WG B s' q := by
  obtain ⟨⟨c, ww, a, d, l, z, k, nn⟩, hb⟩ := h
  have hnw := isN_lt (wc_nw c) (by decide)
  have e1 : cN s' 1 = cN s 1 := cN_cg (hk _ (by omega))
  refine ⟨⟨c.cg (hk _ (by omega)) (hk _ (by omega)) (hk _ (by omega)) (hk _ (by omega)) (hk _ (by omega)) (hk _ (by omega)) (fun p hp => hk _ (by omega)), ww_iff.mpr ⟨fun v hv => ?_, fun v h1 h2 => ?_⟩, a.cg c (hk _ (by omega)) (hk _ (by omega)) (hk _ (by omega)) (fun k _ _ => hk k (by omega)), d.cg c (hk _ (by omega)) (hk _ (by omega)) (hk _ (by omega)) (fun k _ _ => hk k (by omega)), l.cg c (hk _ (by omega)) (hk _ (by omega)) (hk _ (by omega)) (fun k _ _ => hk k (by omega)), z.cg (hk _ (by omega)) (hk _ (by omega)) (fun _ _ => rfl), k.cg (hk _ (by omega)) (hk _ (by omega)), nn.cg c (hk _ (by omega)) (hk _ (by omega)) (fun _ _ _ => rfl)⟩, hb⟩
  · rw [e1] at hv
    by_cases e : v = w
    · rw [e]; exact hP
    · exact ((ww_iff.mp ww).1 v hv).cg (cN_cg (hk _ (by omega))) (fun k h1 h2 => hk k (by omega))
  · rw [e1] at h1
    rw [hk _ (by omega), hk _ (by omega)]; exact (ww_iff.mp ww).2 v h1 h2
theorem WG.split (h : WG B s q) {w day : Nat} (hw : w < cN s 1) (hn : cN s (18 + 48 * w) < 4) (hL : LG s L) (hS : lsum L = 100) (hd : day < 10000) (h1 : cN s (19 + 48 * w + (cN s (18 + 48 * w) - 1)) < day) : WG B (splU s w (cN s (18 + 48 * w)) day L) q := by
  have hnp := isN_lt (wc_np h.1.1) (by decide)
  obtain ⟨p1, p2, p3, p4⟩ := (ww_iff.mp h.1.2.1).1 w hw
  have hno := isN_lt p3 (by decide)
  have l2 := hL.2.1
  have g := p2.spl hn hL hS (by omega) hd (fun e => by omega) (fun _ => h1)
  generalize cN s (18 + 48 * w) = n at *
  have u0 : splU s w n day L (18 + 48 * w) = nI (n + 1) := if_pos rfl
  have hs : ∀ k, (k < 18 + 48 * w ∨ 59 + 48 * w ≤ k) → splU s w n day L k = s k := fun k z => by
    unfold splU; rw [if_neg (by omega), if_neg (by omega), if_neg (by omega), if_neg (by omega), if_neg (by omega)]
  refine h.row hw ?_ (fun k z => hs k (by omega))
  unfold PW
  rw [cN_ u0 (by omega), u0, cN_cg (hs (59 + 48 * w) (by omega)), hs (59 + 48 * w) (by omega)]
  exact ⟨⟨⟨n + 1, by omega, rfl⟩, by omega⟩, g, p3, p4.cg (by omega) (fun k _ _ => hs k (by omega))⟩
theorem WG.source (h : WG B s q) {w so pc : Nat} (hw : w < cN s 1) (hn : cN s (59 + 48 * w) < 3) (h1 : so < w) (h2 : pc < 91) (h3 : sum_ (fun i => cN s (63 + 48 * w + i)) (cN s (59 + 48 * w)) + pc ≤ 90) : WG B (srcU s w (cN s (59 + 48 * w)) so pc) q := by
  obtain ⟨p1, p2, p3, p4⟩ := (ww_iff.mp h.1.2.1).1 w hw
  have hns := isN_lt p1.1 (by decide)
  have g := p4.src hn h1 h2 h3
  generalize cN s (59 + 48 * w) = n at *
  have u0 : srcU s w n so pc (59 + 48 * w) = nI (n + 1) := if_pos rfl
  have hs : ∀ k, (k < 59 + 48 * w ∨ 66 + 48 * w ≤ k) → srcU s w n so pc k = s k := fun k z => by
    unfold srcU; rw [if_neg (by omega), if_neg (by omega), if_neg (by omega)]
  refine h.row hw ?_ (fun k z => hs k (by omega))
  unfold PW
  rw [cN_ u0 (by omega), u0, cN_cg (hs (18 + 48 * w) (by omega)), hs (18 + 48 * w) (by omega)]
  exact ⟨p1, p2.cg (by omega) (cN_cg (hs 0 (by omega))) (fun k _ _ => hs k (by omega)), ⟨n + 1, by omega, rfl⟩, g⟩
theorem WG.work (h : WG B s q) {nm : Int64} (hw : cN s 1 < 12) (hL : LG s L) (hS : lsum L = 100) (hg : gdn_ nm) (hne : ∀ i, i < cN s 1 → q (472 + i) ≠ nm) : WG B (splU (wk1 s) (cN s 1) 0 0 L) (wkQ s q nm) := by
  obtain ⟨⟨c, ww, a, d, li, z, k, nn⟩, hb⟩ := h
  have hnp := isN_lt (wc_np c) (by decide)
  have hna := isN_lt (wc_na c) (by decide)
  have hnd := isN_lt (wc_nd c) (by decide)
  have hnl := isN_lt (wc_nl c) (by decide)
  obtain ⟨w1, w2⟩ := ww_iff.mp ww
  have l2 := hL.2.1
  have k0 : cN (wk1 s) 0 = cN s 0 := cN_cg (if_neg (by decide))
  have hL1 : LG (wk1 s) L := by unfold LG; rw [k0]; exact hL
  have v0 : PWn (wk1 s) (cN s 1) 0 := ⟨fun h => absurd h (by omega), fun k h => absurd h (by omega), fun k h => absurd h (by omega), fun k h => absurd h (by omega), fun k j h => absurd h (by omega), fun k i j h => absurd h (by omega), fun k j h => absurd h (by omega), fun k h => absurd h (by omega)⟩
  have g := v0.spl (day := 0) (by decide) hL1 hS (by omega) (by decide) (fun _ => rfl) (fun h => absurd h (by omega))
  have z0 := (w2 (cN s 1) (Nat.le_refl _) hw).2
  have u0 : splU (wk1 s) (cN s 1) 0 0 L (18 + 48 * cN s 1) = nI 1 := if_pos rfl
  have hs : ∀ k, ¬ k = 1 → (k < 18 + 48 * cN s 1 ∨ 59 + 48 * cN s 1 ≤ k) → splU (wk1 s) (cN s 1) 0 0 L k = s k := fun k z1 z => by
    unfold splU; rw [if_neg (by omega), if_neg (by omega), if_neg (by omega), if_neg (by omega), if_neg (by omega)]; exact if_neg z1
  have e1 : splU (wk1 s) (cN s 1) 0 0 L 1 = nI (cN s 1 + 1) := by
    unfold splU; rw [if_neg (by omega), if_neg (by omega), if_neg (by omega), if_neg (by omega), if_neg (by omega)]; exact if_pos rfl
  have hq : ∀ k, ¬ k = 472 + cN s 1 → wkQ s q nm k = q k := fun k z => if_neg z
  have en : wkQ s q nm (472 + cN s 1) = nm := if_pos rfl
  generalize splU (wk1 s) (cN s 1) 0 0 L = t at *
  generalize wkQ s q nm = r at *
  have c1 : cN t 1 = cN s 1 + 1 := cN_ e1 (by omega)
  have c0 : cN t 0 = cN s 0 := cN_cg (hs _ (by omega) (by omega))
  have c2 : cN t 2 = cN s 2 := cN_cg (hs _ (by omega) (by omega))
  have c3 : cN t 3 = cN s 3 := cN_cg (hs _ (by omega) (by omega))
  have c6 : cN t 6 = cN s 6 := cN_cg (hs _ (by omega) (by omega))
  have wk : ∀ {k : Nat}, isN (s k) (cN s 1) → 594 ≤ k → isN (t k) (cN t 1) := fun {k} h hk => by
    rw [hs k (by omega) (by omega), c1]
    obtain ⟨j, h1, h2⟩ := h
    exact ⟨j, by omega, h2⟩
  have hk : ∀ k, 594 ≤ k → t k = s k := fun k h => hs k (by omega) (by omega)
  refine ⟨⟨?_, ww_iff.mpr ⟨fun v hv => ?_, fun v h1 h2 => ?_⟩, ?_, ?_, ?_, ?_, ?_, ?_⟩, ?_⟩
  · obtain ⟨a0, a1, a2, a3, a4, a6, a8⟩ := c
    exact ⟨by rw [hs _ (by omega) (by omega)]; exact a0, ⟨cN s 1 + 1, by omega, e1⟩, by rw [hs _ (by omega) (by omega)]; exact a2, by rw [hs _ (by omega) (by omega)]; exact a3, by rw [hs _ (by omega) (by omega)]; exact a4, by rw [hs _ (by omega) (by omega)]; exact a6, fun p hp => by rw [hs _ (by omega) (by omega)]; exact a8 p hp⟩
  · rw [c1] at hv
    by_cases e : v = cN s 1
    · subst e
      unfold PW
      have z1 : t (59 + 48 * cN s 1) = nI 0 := (hs _ (by omega) (by omega)).trans z0
      rw [cN_ u0 (by decide), u0, cN_ z1 (by decide), z1]
      exact ⟨⟨⟨1, by decide, rfl⟩, by decide⟩, g, ⟨0, by decide, rfl⟩, fun i h => absurd h (by omega), fun i h => absurd h (by omega), Nat.zero_le _⟩
    · exact (w1 v (by omega)).cg c0 (fun k h1 h2 => hs k (by omega) (by omega))
  · rw [c1] at h1
    rw [hs _ (by omega) (by omega), hs _ (by omega) (by omega)]; exact w2 v (by omega) h2
  · obtain ⟨a1, a2, a3, a4, a5, a6, a7⟩ := a
    refine ⟨fun a ha => ?_, fun a ha => ?_, fun a ha => ?_, fun a ha => ?_, fun a ha => ?_, fun a ha => ?_, fun p w day => ?_⟩
    all_goals try rw [c2] at ha
    · rw [hk _ (by omega), c0]; exact a1 a ha
    · exact wk (a2 a ha) (by omega)
    · rw [hk _ (by omega), c0]; exact a3 a ha
    · rw [hk _ (by omega)]; exact a4 a ha
    · rw [hk _ (by omega)]; exact a5 a ha
    · rw [hk _ (by omega)]; exact a6 a ha
    · rw [c2, lv_cg (by omega) (fun k h1 h2 => hk k (by omega))]; exact a7 p w day
  · obtain ⟨a1, a2, a3, a4, a5, a6, a7⟩ := d
    refine ⟨fun a ha => ?_, fun a ha => ?_, fun a ha => ?_, fun a ha => ?_, fun a ha => ?_, fun a ha => ?_, fun a ha hb => ?_⟩
    all_goals rw [c3] at ha
    · rw [hk _ (by omega), c0]; exact a1 a ha
    · rw [hk _ (by omega), c0]; exact a2 a ha
    · rw [hk _ (by omega)]; exact a3 a ha
    · rw [hk _ (by omega), cN_cg (hk _ (by omega))]; exact a4 a ha
    · rcases a5 a ha with y | y
      · exact Or.inl (by rw [hk _ (by omega)]; exact y)
      · exact Or.inr (wk y (by omega))
    · rw [hk _ (by omega)]; exact a6 a ha
    · rw [hk _ (by omega)]; exact a7 a ha hb
  · obtain ⟨a1, a2, a3, a4⟩ := li
    refine ⟨fun a ha => ?_, fun a ha => ?_, fun a ha => ?_, fun a ha => ?_⟩
    all_goals rw [c6] at ha
    · exact wk (a1 a ha) (by omega)
    · rw [hk _ (by omega), c0]; exact a2 a ha
    · rw [hk _ (by omega)]; exact a3 a ha
    · rw [hk _ (by omega)]; exact a4 a ha
  · obtain ⟨a1, a2, a3, a4⟩ := z
    refine ⟨fun p h1 h2 => ?_, fun p c h1 h2 h3 => ?_, fun p c h1 h2 h3 => ?_, fun w h2 h3 => ?_⟩
    · rw [c0] at h1; rw [hq _ (by omega)]; exact a1 p (by omega) h2
    · rw [c0] at h1; rw [hq _ (by omega)]; exact a2 p c (by omega) h2 h3
    · rw [c0] at h1; rw [hq _ (by omega)]; exact a3 p c (by omega) h2 h3
    · rw [c1] at h2; rw [hq _ (by omega)]; exact a4 w (by omega) h3
  · exact k.cg (hs _ (by omega) (by omega)) (hs _ (by omega) (by omega))
  · obtain ⟨a1, a2, a3, a4⟩ := nn
    refine ⟨fun i j h2 h3 => ?_, fun i j h2 h3 => ?_, fun i h3 => ?_, fun i h3 => ?_⟩
    · rw [c0] at h3; rw [hq _ (by omega), hq _ (by omega)]; exact a1 i j h2 h3
    · rw [c1] at h3
      by_cases e : j = cN s 1
      · rw [e, en, hq _ (by omega)]; exact hne i (by omega)
      · rw [hq _ (by omega), hq _ (by omega)]; exact a2 i j h2 (by omega)
    · rw [c0] at h3; rw [hq _ (by omega)]; exact a3 i h3
    · rw [c1] at h3
      by_cases e : i = cN s 1
      · rw [e, en]; exact hg
      · rw [hq _ (by omega)]; exact a4 i (by omega)
  · intro p hp
    rw [hq _ (by omega)]; exact hb p hp
end W84
