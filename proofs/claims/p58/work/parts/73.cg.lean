/-! what is always so rests on some numbers alone -/
section R73
variable {s s' : Nat → Int32} {q q' : Nat → Int64}
theorem cN_cg {k : Nat} (h : s' k = s k) : cN s' k = cN s k := by unfold cN; rw [h]
theorem isN_cg {k n : Nat} (h : isN (s k) n) (e : s' k = s k) : isN (s' k) n := by rw [e]; exact h
theorem WC.cg (h : WC s) (h0 : s' 0 = s 0) (h1 : s' 1 = s 1) (h2 : s' 2 = s 2) (h3 : s' 3 = s 3) (h4 : s' 4 = s 4) (h6 : s' 6 = s 6) (hl : ∀ p, p < 10 → s' (8 + p) = s (8 + p)) : WC s' := by
  obtain ⟨a0, a1, a2, a3, a4, a6, a8⟩ := h
  exact ⟨by rw [h0]; exact a0, by rw [h1]; exact a1, by rw [h2]; exact a2, by rw [h3]; exact a3, by rw [h4]; exact a4, by rw [h6]; exact a6, fun p hp => by rw [hl p hp]; exact a8 p hp⟩
theorem WW.cg (h : WW s) (hC : WC s) (h0 : s' 0 = s 0) (h1 : s' 1 = s 1) (hk : ∀ k, 18 ≤ k → k < 594 → s' k = s k) : WW s' := by
  have c0 : cN s' 0 = cN s 0 := cN_cg h0
  have c1 : cN s' 1 = cN s 1 := cN_cg h1
  have ck : ∀ k, 18 ≤ k → k < 594 → cN s' k = cN s k := fun k a b => cN_cg (hk k a b)
  have hnw := isN_lt (wc_nw hC) (by decide)
  obtain ⟨a1, a2, a3, a4, a5, a6, a7, a8, a9, b1, b2, b3, b4, b5⟩ := h
  have n1 : ∀ w, w < cN s 1 → cN s (18 + 48 * w) < 5 := fun w hw => isN_lt (a1 w hw).1 (by decide)
  have n2 : ∀ w k, w < cN s 1 → k < cN s (18 + 48 * w) → cN s (23 + 48 * w + k) < 5 := fun w k hw hk => isN_lt (a5 w k hw hk).1 (by decide)
  have n3 : ∀ w, w < cN s 1 → cN s (59 + 48 * w) < 4 := fun w hw => isN_lt (b1 w hw) (by decide)
  have k1 : ∀ w, w < 12 → cN s' (18 + 48 * w) = cN s (18 + 48 * w) := fun w hw => ck _ (by omega) (by omega)
  have k2 : ∀ w k, w < 12 → k < 5 → cN s' (23 + 48 * w + k) = cN s (23 + 48 * w + k) := fun w k hw hk => ck _ (by omega) (by omega)
  have k3 : ∀ w, w < 12 → cN s' (59 + 48 * w) = cN s (59 + 48 * w) := fun w hw => ck _ (by omega) (by omega)
  refine ⟨fun w hw => ?_, fun w hw => ?_, fun w k hw h2 => ?_, fun w k hw h2 => ?_, fun w k hw h2 => ?_, fun w k j hw h2 h3 => ?_, fun w k i j hw h2 h3 h4 => ?_, fun w k j hw h2 h3 => ?_, fun w k hw h2 => ?_, fun w hw => ?_, fun w i hw h2 => ?_, fun w i hw h2 => ?_, fun w hw => ?_, fun w hw h2 => ?_⟩ <;> rw [c1] at hw
  · rw [k1 w (by omega), hk _ (by omega) (by omega)]; exact a1 w hw
  · rw [hk _ (by omega) (by omega)]; exact a2 w hw
  · rw [k1 w (by omega)] at h2
    have := n1 w hw
    rw [hk _ (by omega) (by omega)]; exact a3 w k hw h2
  · rw [k1 w (by omega)] at h2
    have := n1 w hw
    rw [ck _ (by omega) (by omega), ck _ (by omega) (by omega)]; exact a4 w k hw h2
  · rw [k1 w (by omega)] at h2
    have := n1 w hw
    rw [k2 w k (by omega) (by omega), hk _ (by omega) (by omega)]; exact a5 w k hw h2
  · rw [k1 w (by omega)] at h2
    have := n1 w hw
    rw [k2 w k (by omega) (by omega)] at h3
    have := n2 w k hw h2
    rw [hk _ (by omega) (by omega), c0]; exact a6 w k j hw h2 h3
  · rw [k1 w (by omega)] at h2
    have := n1 w hw
    rw [k2 w k (by omega) (by omega)] at h3
    have := n2 w k hw h2
    rw [ck _ (by omega) (by omega), ck _ (by omega) (by omega)]; exact a7 w k i j hw h2 h3 h4
  · rw [k1 w (by omega)] at h2
    have := n1 w hw
    rw [k2 w k (by omega) (by omega)] at h3
    have := n2 w k hw h2
    rw [ck _ (by omega) (by omega), hk _ (by omega) (by omega)]; exact a8 w k j hw h2 h3
  · rw [k1 w (by omega)] at h2
    have := n1 w hw
    have := n2 w k hw h2
    rw [k2 w k (by omega) (by omega), sum_cg fun j hj => ck _ (by omega) (by omega)]; exact a9 w k hw h2
  · rw [hk _ (by omega) (by omega)]; exact b1 w hw
  · rw [k3 w (by omega)] at h2
    have := n3 w hw
    rw [hk _ (by omega) (by omega)]; exact b2 w i hw h2
  · rw [k3 w (by omega)] at h2
    have := n3 w hw
    rw [hk _ (by omega) (by omega)]; exact b3 w i hw h2
  · have := n3 w hw
    rw [k3 w (by omega), sum_cg fun j hj => ck _ (by omega) (by omega)]; exact b4 w hw
  · rw [hk _ (by omega) (by omega), hk _ (by omega) (by omega)]; exact b5 w hw h2
theorem lv_cg {n : Nat} (hn : n ≤ 16) (hk : ∀ k, 594 ≤ k → k < 690 → s' k = s k) (p w day : Nat) : lv_ s' p w day n = lv_ s p w day n := by
  unfold lv_
  refine sum_cg fun a ha => ?_
  rw [cN_cg (hk (594 + 6 * a + 0) (by omega) (by omega)), cN_cg (hk (594 + 6 * a + 1) (by omega) (by omega)), cN_cg (hk (594 + 6 * a + 3) (by omega) (by omega)), cN_cg (hk (594 + 6 * a + 4) (by omega) (by omega)), cN_cg (hk (594 + 6 * a + 5) (by omega) (by omega))]
theorem WA.cg (h : WA s) (hC : WC s) (h0 : s' 0 = s 0) (h1 : s' 1 = s 1) (h2 : s' 2 = s 2) (hk : ∀ k, 594 ≤ k → k < 690 → s' k = s k) : WA s' := by
  have hna := isN_lt (wc_na hC) (by decide)
  obtain ⟨a1, a2, a3, a4, a5, a6, a7⟩ := h
  refine ⟨fun a ha => ?_, fun a ha => ?_, fun a ha => ?_, fun a ha => ?_, fun a ha => ?_, fun a ha => ?_, fun p w day => ?_⟩
  all_goals try rw [cN_cg h2] at ha
  all_goals try rw [hk _ (by omega) (by omega)]
  · rw [cN_cg h0]; exact a1 a ha
  · rw [cN_cg h1]; exact a2 a ha
  · rw [cN_cg h0]; exact a3 a ha
  · exact a4 a ha
  · exact a5 a ha
  · exact a6 a ha
  · rw [cN_cg h2, lv_cg (by omega) hk]; exact a7 p w day
theorem WD.cg (h : WD s) (hC : WC s) (h0 : s' 0 = s 0) (h1 : s' 1 = s 1) (h3 : s' 3 = s 3) (hk : ∀ k, 690 ≤ k → k < 762 → s' k = s k) : WD s' := by
  have hnd := isN_lt (wc_nd hC) (by decide)
  obtain ⟨a1, a2, a3, a4, a5, a6, a7⟩ := h
  refine ⟨fun a ha => ?_, fun a ha => ?_, fun a ha => ?_, fun a ha => ?_, fun a ha => ?_, fun a ha => ?_, fun a ha hb => ?_⟩
  all_goals rw [cN_cg h3] at ha
  all_goals rw [hk _ (by omega) (by omega)]
  · rw [cN_cg h0]; exact a1 a ha
  · rw [cN_cg h0]; exact a2 a ha
  · exact a3 a ha
  · rw [cN_cg (hk _ (by omega) (by omega))]; exact a4 a ha
  · rw [cN_cg h1]; exact a5 a ha
  · exact a6 a ha
  · exact a7 a ha hb
theorem WL.cg (h : WL s) (hC : WC s) (h0 : s' 0 = s 0) (h1 : s' 1 = s 1) (h6 : s' 6 = s 6) (hk : ∀ k, 767 ≤ k → k < 1023 → s' k = s k) : WL s' := by
  have hnd := isN_lt (wc_nl hC) (by decide)
  obtain ⟨a1, a2, a3, a4⟩ := h
  refine ⟨fun a ha => ?_, fun a ha => ?_, fun a ha => ?_, fun a ha => ?_⟩
  all_goals rw [cN_cg h6] at ha
  all_goals rw [hk _ (by omega) (by omega)]
  · rw [cN_cg h1]; exact a1 a ha
  · rw [cN_cg h0]; exact a2 a ha
  · exact a3 a ha
  · exact a4 a ha
theorem WZ.cg (h : WZ s q) (h0 : s' 0 = s 0) (h1 : s' 1 = s 1) (hk : ∀ k, k < 212 → q' k = q k) : WZ s' q' := by
  obtain ⟨a1, a2, a3, a4⟩ := h
  refine ⟨fun p h1 h2 => ?_, fun p c h1 h2 h3 => ?_, fun p c h1 h2 h3 => ?_, fun w h2 h3 => ?_⟩
  · rw [hk _ (by omega)]; exact a1 p (by rw [← cN_cg h0]; exact h1) h2
  · rw [hk _ (by omega)]; exact a2 p c (by rw [← cN_cg h0]; exact h1) h2 h3
  · rw [hk _ (by omega)]; exact a3 p c (by rw [← cN_cg h0]; exact h1) h2 h3
  · rw [hk _ (by omega)]; exact a4 w (by rw [← cN_cg h1]; exact h2) h3
theorem WK.cg {B : Nat} (h : WK B s) (h5 : s' 5 = s 5) (h7 : s' 7 = s 7) : WK B s' := ⟨by rw [h5]; exact h.1, by rw [h7, cN_cg h5]; exact h.2⟩
theorem WN.cg (h : WN s q) (hC : WC s) (h0 : s' 0 = s 0) (h1 : s' 1 = s 1) (hk : ∀ k, 462 ≤ k → k < 484 → q' k = q k) : WN s' q' := by
  have hnp := isN_lt (wc_np hC) (by decide)
  have hnw := isN_lt (wc_nw hC) (by decide)
  obtain ⟨a1, a2, a3, a4⟩ := h
  refine ⟨fun i j h2 h3 => ?_, fun i j h2 h3 => ?_, fun i h3 => ?_, fun i h3 => ?_⟩
  · rw [cN_cg h0] at h3; rw [hk _ (by omega) (by omega), hk _ (by omega) (by omega)]; exact a1 i j h2 h3
  · rw [cN_cg h1] at h3; rw [hk _ (by omega) (by omega), hk _ (by omega) (by omega)]; exact a2 i j h2 h3
  · rw [cN_cg h0] at h3; rw [hk _ (by omega) (by omega)]; exact a3 i h3
  · rw [cN_cg h1] at h3; rw [hk _ (by omega) (by omega)]; exact a4 i h3
theorem WF.cg {B : Nat} (h : WF B s q) (hs : ∀ k, k < 1023 → s' k = s k) (hq : ∀ k, k < 484 → q' k = q k) : WF B s' q' := by
  obtain ⟨c, w, a, d, l, z, k, n⟩ := h
  exact ⟨c.cg (hs _ (by omega)) (hs _ (by omega)) (hs _ (by omega)) (hs _ (by omega)) (hs _ (by omega)) (hs _ (by omega)) (fun p hp => hs _ (by omega)),
    w.cg c (hs _ (by omega)) (hs _ (by omega)) (fun k _ h => hs k (by omega)),
    a.cg c (hs _ (by omega)) (hs _ (by omega)) (hs _ (by omega)) (fun k _ h => hs k (by omega)),
    d.cg c (hs _ (by omega)) (hs _ (by omega)) (hs _ (by omega)) (fun k _ h => hs k (by omega)),
    l.cg c (hs _ (by omega)) (hs _ (by omega)) (hs _ (by omega)) (fun k _ h => hs k (by omega)),
    z.cg (hs _ (by omega)) (hs _ (by omega)) (fun k h => hq k (by omega)),
    k.cg (hs _ (by omega)) (hs _ (by omega)),
    n.cg c (hs _ (by omega)) (hs _ (by omega)) (fun k _ h => hq k (by omega))⟩
theorem WK.b7 {B : Nat} (h : WK B s) : cN s 7 ≤ 5 := by rw [cN_ h.2 (by omega)]; omega
theorem OV.cg {m : am_M} {o B : Nat} (h : OV m o s q) (hC : WC s) (hK : WK B s) (hs : ∀ k, k < 1023 → s' k = s k) (hq : ∀ k, k < 484 → q' k = q k) : OV m o s' q' := by
  have hnl := isN_lt (wc_nl hC) (by decide)
  have h7 := hK.b7
  obtain ⟨a1, a2, a3, a4, a5, a6, a7, a8, a9, b1, b2, b3, b4, b5, b6, b7, b8, b9, c1, c2, c3, c4, c5, c6, c7, c8, c9, d1⟩ := h
  have e6 : cN s' 6 = cN s 6 := cN_cg (hs 6 (by omega))
  have e7 : cN s' 7 = cN s 7 := cN_cg (hs 7 (by omega))
  have e5 : cN s' 5 = cN s 5 := cN_cg (hs 5 (by omega))
  refine ⟨?_, ?_, ?_, fun k h => ?_, fun k h => ?_, fun k h => ?_, fun k h => ?_, fun k h => ?_, fun w i h1 h2 => ?_, fun w i h1 h2 => ?_, fun w k h1 h2 => ?_, fun w k h1 h2 => ?_, fun w k j h1 h2 h3 => ?_, fun w k j h1 h2 h3 => ?_, ?_, fun a c h1 h2 => ?_, ?_, fun a c h1 h2 => ?_, ?_, fun a c h1 h2 => ?_, ?_, fun p h1 => ?_, fun p c h1 h2 => ?_, fun p c h1 h2 => ?_, fun p w h1 h2 => ?_, fun w h1 => ?_, fun i p c h1 h2 h3 => ?_, fun i h1 => ?_⟩
  · rw [hs _ (by omega)]; exact a1
  · rw [hs _ (by omega)]; exact a2
  · rw [hs _ (by omega)]; exact a3
  · rw [hq _ (by omega)]; exact a4 k h
  · rw [hs _ (by omega)]; exact a5 k h
  · rw [hq _ (by omega)]; exact a6 k h
  · rw [hs _ (by omega)]; exact a7 k h
  · rw [hs _ (by omega)]; exact a8 k h
  · rw [hs _ (by omega)]; exact a9 w i h1 h2
  · rw [hs _ (by omega)]; exact b1 w i h1 h2
  · rw [hs _ (by omega)]; exact b2 w k h1 h2
  · rw [hs _ (by omega)]; exact b3 w k h1 h2
  · rw [hs _ (by omega)]; exact b4 w k j h1 h2 h3
  · rw [hs _ (by omega)]; exact b5 w k j h1 h2 h3
  · rw [hs _ (by omega)]; exact b6
  · rw [hs _ (by omega)]; exact b7 a c h1 h2
  · rw [hs _ (by omega)]; exact b8
  · rw [hs _ (by omega)]; exact b9 a c h1 h2
  · rw [hs _ (by omega)]; exact c1
  · rw [e6] at h1; rw [hs _ (by omega)]; exact c2 a c h1 h2
  · rw [hs _ (by omega)]; exact c3
  · rw [hq _ (by omega)]; exact c4 p h1
  · rw [hq _ (by omega)]; exact c5 p c h1 h2
  · rw [hq _ (by omega)]; exact c6 p c h1 h2
  · rw [hq _ (by omega)]; exact c7 p w h1 h2
  · rw [hq _ (by omega)]; exact c8 w h1
  · rw [e7] at h1; rw [e5, hq _ (by omega)]; exact c9 i p c h1 h2 h3
  · rw [e7] at h1; rw [e5, hs _ (by omega)]; exact d1 i h1
end R73
