/-! a payee more -/
def pyS (s : Nat → Int32) (l : Nat) (k : Nat) : Int32 := if k = 0 then nI (cN s 0 + 1) else if k = 8 + cN s 0 then nI l else s k
def pyQ (s : Nat → Int32) (q : Nat → Int64) (nm : Int64) (k : Nat) : Int64 := if k = 462 + cN s 0 then nm else q k
theorem bool_ff {P : Prop} (h : P → False) : ¬ P := h
/-- small facts of a new name -/
theorem pnm_new {s : Nat → Int32} {q : Nat → Int64} {x : Int64} (h : ¬ pnm_ s q x < cN s 0) : ∀ i, i < cN s 0 → q (462 + i) ≠ x := fun i hi e => by
  unfold pnm_ at h
  rcases fst_spec (fun p => decide (q (462 + p) = x)) (cN s 0) 0 with ⟨h1, h2⟩ | ⟨h1, h2, h3, h4⟩
  · have := h2 i (by omega) (by omega)
    rw [e, decide_eq_true rfl] at this
    cases this
  · omega
theorem wnm_new {s : Nat → Int32} {q : Nat → Int64} {x : Int64} (h : ¬ wnm_ s q x < cN s 1) : ∀ i, i < cN s 1 → q (472 + i) ≠ x := fun i hi e => by
  unfold wnm_ at h
  rcases fst_spec (fun p => decide (q (472 + p) = x)) (cN s 1) 0 with ⟨h1, h2⟩ | ⟨h1, h2, h3, h4⟩
  · have := h2 i (by omega) (by omega)
    rw [e, decide_eq_true rfl] at this
    cases this
  · omega
/-- a cell of an office that no call ever changes in its shape -/
def OC (o a k : Nat) : Prop := OA o a ∧ ¬ (a = o ∧ 1 ≤ k) ∧ ¬ (a = o + 1 ∧ 2 ≤ k) ∧ ¬ (a = o + 19 ∧ k < 7) ∧ ((a = o + 7 ∨ a = o + 9 ∨ a = o + 11 ∨ a = o + 13 ∨ a = o + 15 ∨ a = o + 17) → 2 ≤ k)
theorem OC.a {o a k : Nat} (h : OC o a k) : OA o a := h.1
theorem OC.os {o : Nat} {m m' : am_M} {P : Nat → Nat → Prop} (h : OS m o) (hf : Fr P m m') (hp : ∀ a k, P a k → OC o a k ∨ ¬ OA o a) : OS m' o := by
  refine h.frd (P := fun a k => P a k) hf (fun a k z => ?_)
  rcases hp a k z with z | z
  · exact z.2
  · unfold OA at z
    omega
section P83
variable {sa sv d N o B : Nat} {m : am_M} {s : Nat → Int32} {q : Nat → Int64}
theorem x8 (hO : OS m o) (hV : OV m o s q) (hC : WC s) {B : Nat} (hK : WK B s) (nm : Int64) (l : Nat) (hn : cN s 0 < 10) : ∃ m', am_ca sa sv (d + 1) 8 [.ref (o + 1), .long nm, .int (nI l)] m = some (.inl none, m') ∧ Fr (OC o) m m' ∧ OS m' o ∧ OV m' o (pyS s l) (pyQ s q nm) := by
  obtain ⟨e0, b0⟩ := (wc_np hC).c (by decide)
  have hnl := isN_lt (wc_nl hC) (by decide)
  have h7 := hK.b7
  have f0 : gi_ (si_ m (o + 3) (cN s 0) (nI l)) (o + 1) 0 = nI (cN s 0) := by rw [gi_si, if_neg (by omega)]; exact (ov_np hV).trans e0
  have hF : Fr (fun a k => (a = o + 1 ∧ k = 0) ∨ (a = o + 2 ∧ k = cN s 0) ∨ (a = o + 3 ∧ k = cN s 0)) m (si_ (si_ (sl_ m (o + 2) (cN s 0) nm) (o + 3) (cN s 0) (nI l)) (o + 1) 0 (nI (cN s 0 + 1))) := (((Fr.refl _ _).sl (Or.inr (Or.inl ⟨rfl, rfl⟩))).si (Or.inr (Or.inr ⟨rfl, rfl⟩))).si (Or.inl ⟨rfl, rfl⟩)
  have r0 : gi_ (si_ (si_ (sl_ m (o + 2) (cN s 0) nm) (o + 3) (cN s 0) (nI l)) (o + 1) 0 (nI (cN s 0 + 1))) (o + 1) 0 = nI (cN s 0 + 1) := by rw [gi_si, if_pos ⟨rfl, rfl⟩]
  have r3 : gi_ (si_ (si_ (sl_ m (o + 2) (cN s 0) nm) (o + 3) (cN s 0) (nI l)) (o + 1) 0 (nI (cN s 0 + 1))) (o + 3) (cN s 0) = nI l := by rw [gi_si, if_neg (by omega), gi_si, if_pos ⟨rfl, rfl⟩]
  have r2 : gl_ (si_ (si_ (sl_ m (o + 2) (cN s 0) nm) (o + 3) (cN s 0) (nI l)) (o + 1) 0 (nI (cN s 0 + 1))) (o + 2) (cN s 0) = nm := by rw [gl_si, gl_si, gl_sl, if_pos ⟨rfl, rfl⟩]
  refine ⟨si_ (si_ (sl_ m (o + 2) (cN s 0) nm) (o + 3) (cN s 0) (nI l)) (o + 1) 0 (nI (cN s 0 + 1)), ?_, hF.mono fun a k z => by unfold OC OA; omega, hO.frd hF (fun a k z => by omega), ?_⟩
  · rw [c8, b8_0]
    simp (disch := omega) only [gq_true, gb_true, gb_false, true_and, and_true, eq_self, not_false_eq_true, not_true_eq_false, true_or, or_true, false_or, or_false, false_and, and_false, c0_v, ci_v, cl_v, cf_v, pk_mul, nI_add, nI_clamp, nI_lt0, nI_0le, nI_eq0, nI_lt0r, nI_ltE, nI_leE, nI_eqE, nI_m1, in_t, ba0, ba1, Nat.one_ne_zero, Nat.reduceEqDiff, Nat.reduceLeDiff, Nat.add_eq_zero_iff, ok1 hO, (ov_np hV).trans e0, or1_2 hO, ok2 hO, or1_3 hO, ok3 hO, f0]
    rw [gb_neg (by omega)]
  generalize si_ (si_ (sl_ m (o + 2) (cN s 0) nm) (o + 3) (cN s 0) (nI l)) (o + 1) 0 (nI (cN s 0 + 1)) = m' at *
  have nI : ∀ a k, ¬ ((a = o + 1 ∧ k = 0) ∨ (a = o + 3 ∧ k = cN s 0) ∨ a = o + 2) → gi_ m' a k = gi_ m a k := fun a k z => hF.2.1 _ _ (by omega)
  have nL : ∀ a k, ¬ (a = o + 1 ∨ (a = o + 2 ∧ k = cN s 0) ∨ a = o + 3) → gl_ m' a k = gl_ m a k := fun a k z => hF.2.2.1 _ _ (by omega)
  have hs : ∀ k, ¬ (k = 0 ∨ k = 8 + cN s 0) → pyS s l k = s k := fun k z => by unfold pyS; rw [if_neg (by omega), if_neg (by omega)]
  have hq : ∀ k, ¬ k = 462 + cN s 0 → pyQ s q nm k = q k := fun k z => if_neg z
  have e5 : cN (pyS s l) 5 = cN s 5 := cN_cg (hs _ (by omega))
  have e6 : cN (pyS s l) 6 = cN s 6 := cN_cg (hs _ (by omega))
  have e7 : cN (pyS s l) 7 = cN s 7 := cN_cg (hs _ (by omega))
  obtain ⟨a1_, a2_, a3_, a4_, a5_, a6_, a7_, a8_, a9_, v1_, v2_, v3_, v4_, v5_, v6_, v7_, v8_, v9_, c1_, c2_, c3_, c4_, c5_, c6_, c7_, c8_, c9_, w1_⟩ := hV
  refine ⟨?_, ?_, ?_, fun k h => ?_, fun k h => ?_, fun k h => ?_, fun k h => ?_, fun k h => ?_, fun w i h1 h2 => ?_, fun w i h1 h2 => ?_, fun w k h1 h2 => ?_, fun w k h1 h2 => ?_, fun w k j h1 h2 h3 => ?_, fun w k j h1 h2 h3 => ?_, ?_, fun a c h1 h2 => ?_, ?_, fun a c h1 h2 => ?_, ?_, fun a c h1 h2 => ?_, ?_, fun p h1 => ?_, fun p c h1 h2 => ?_, fun p c h1 h2 => ?_, fun p w h1 h2 => ?_, fun w h1 => ?_, fun i p c h1 h2 h3 => ?_, fun i h1 => ?_⟩
  · rw [nI _ _ (by omega), hs _ (by omega)]; exact a1_ 
  · rw [r0]; exact (if_pos rfl).symm
  · rw [nI _ _ (by omega), hs _ (by omega)]; exact a3_ 
  · by_cases e : k = cN s 0
    · rw [e, r2]; exact (if_pos rfl).symm
    · rw [nL _ _ (by omega), hq _ (by omega)]; exact a4_ k h
  · by_cases e : k = cN s 0
    · rw [e, r3]; unfold pyS; rw [if_neg (by omega), if_pos rfl]
    · rw [nI _ _ (by omega), hs _ (by omega)]; exact a5_ k h
  · rw [nL _ _ (by omega), hq _ (by omega)]; exact a6_ k h
  · rw [nI _ _ (by omega), hs _ (by omega)]; exact a7_ k h
  · rw [nI _ _ (by omega), hs _ (by omega)]; exact a8_ k h
  · rw [nI _ _ (by omega), hs _ (by omega)]; exact a9_ w i h1 h2
  · rw [nI _ _ (by omega), hs _ (by omega)]; exact v1_ w i h1 h2
  · rw [nI _ _ (by omega), hs _ (by omega)]; exact v2_ w k h1 h2
  · rw [nI _ _ (by omega), hs _ (by omega)]; exact v3_ w k h1 h2
  · rw [nI _ _ (by omega), hs _ (by omega)]; exact v4_ w k j h1 h2 h3
  · rw [nI _ _ (by omega), hs _ (by omega)]; exact v5_ w k j h1 h2 h3
  · rw [nI _ _ (by omega), hs _ (by omega)]; exact v6_ 
  · rw [nI _ _ (by omega), hs _ (by omega)]; exact v7_ a c h1 h2
  · rw [nI _ _ (by omega), hs _ (by omega)]; exact v8_ 
  · rw [nI _ _ (by omega), hs _ (by omega)]; exact v9_ a c h1 h2
  · rw [nI _ _ (by omega), hs _ (by omega)]; exact c1_ 
  · rw [e6] at h1
    rw [nI _ _ (by omega), hs _ (by omega)]; exact c2_ a c h1 h2
  · rw [nI _ _ (by omega), hs _ (by omega)]; exact c3_ 
  · rw [nL _ _ (by omega), hq _ (by omega)]; exact c4_ p h1
  · rw [nL _ _ (by omega), hq _ (by omega)]; exact c5_ p c h1 h2
  · rw [nL _ _ (by omega), hq _ (by omega)]; exact c6_ p c h1 h2
  · rw [nL _ _ (by omega), hq _ (by omega)]; exact c7_ p w h1 h2
  · rw [nL _ _ (by omega), hq _ (by omega)]; exact c8_ w h1
  · rw [e7] at h1
    rw [e5]
    rw [nL _ _ (by omega), hq _ (by omega)]; exact c9_ i p c h1 h2 h3
  · rw [e7] at h1
    rw [e5]
    rw [nI _ _ (by omega), hs _ (by omega)]; exact w1_ i h1
theorem WG.payee (h : WG B s q) {nm : Int64} {l : Nat} (hn : cN s 0 < 10) (hl : l < 100000) (hg : gdn_ nm) (hne : ∀ i, i < cN s 0 → q (462 + i) ≠ nm) : WG B (pyS s l) (pyQ s q nm) := by
  obtain ⟨⟨c, w, a, d, li, z, k, nn⟩, hb⟩ := h
  have hs : ∀ k, ¬ (k = 0 ∨ k = 8 + cN s 0) → pyS s l k = s k := fun k z => by unfold pyS; rw [if_neg (by omega), if_neg (by omega)]
  have hq : ∀ k, ¬ k = 462 + cN s 0 → pyQ s q nm k = q k := fun k z => if_neg z
  have e0 : cN (pyS s l) 0 = cN s 0 + 1 := cN_ (show pyS s l 0 = nI (cN s 0 + 1) from if_pos rfl) (by omega)
  have e1 : cN (pyS s l) 1 = cN s 1 := cN_cg (hs _ (by omega))
  have hnw := isN_lt (wc_nw c) (by decide)
  have hna := isN_lt (wc_na c) (by decide)
  have hnd := isN_lt (wc_nd c) (by decide)
  have hnl := isN_lt (wc_nl c) (by decide)
  have ck : ∀ k, 18 ≤ k → cN (pyS s l) k = cN s k := fun k hk => cN_cg (hs k (by omega))
  have wk : ∀ {k : Nat}, isN (s k) (cN s 0) → 18 ≤ k → isN (pyS s l k) (cN (pyS s l) 0) := fun {k} h hk => by
    rw [hs k (by omega), e0]
    obtain ⟨j, h1, h2⟩ := h
    exact ⟨j, by omega, h2⟩
  refine ⟨⟨?_, ?_, ?_, ?_, ?_, ?_, ?_, ?_⟩, ?_⟩
  · obtain ⟨a0, a1, a2, a3, a4, a6, a8⟩ := c
    refine ⟨⟨cN s 0 + 1, by omega, if_pos rfl⟩, by rw [hs _ (by omega)]; exact a1, by rw [hs _ (by omega)]; exact a2, by rw [hs _ (by omega)]; exact a3, by rw [hs _ (by omega)]; exact a4, by rw [hs _ (by omega)]; exact a6, fun p hp => ?_⟩
    by_cases e : p = cN s 0
    · subst e
      exact ⟨l, hl, by unfold pyS; rw [if_neg (by omega), if_pos rfl]⟩
    · rw [hs _ (by omega)]; exact a8 p hp
  · obtain ⟨a1, a2, a3, a4, a5, a6, a7, a8, a9, b1, b2, b3, b4, b5⟩ := w
    have n1 : ∀ w, w < cN s 1 → cN s (18 + 48 * w) < 5 := fun w hw => isN_lt (a1 w hw).1 (by decide)
    refine ⟨fun w hw => ?_, fun w hw => ?_, fun w k hw h2 => ?_, fun w k hw h2 => ?_, fun w k hw h2 => ?_, fun w k j hw h2 h3 => ?_, fun w k i j hw h2 h3 h4 => ?_, fun w k j hw h2 h3 => ?_, fun w k hw h2 => ?_, fun w hw => ?_, fun w i hw h2 => ?_, fun w i hw h2 => ?_, fun w hw => ?_, fun w hw h2 => ?_⟩ <;> rw [e1] at hw
    · rw [ck _ (by omega), hs _ (by omega)]; exact a1 w hw
    · rw [hs _ (by omega)]; exact a2 w hw
    · rw [ck _ (by omega)] at h2; rw [hs _ (by omega)]; exact a3 w k hw h2
    · rw [ck _ (by omega)] at h2; rw [ck _ (by omega), ck _ (by omega)]; exact a4 w k hw h2
    · rw [ck _ (by omega)] at h2; rw [ck _ (by omega), hs _ (by omega)]; exact a5 w k hw h2
    · rw [ck _ (by omega)] at h2 h3; exact wk (a6 w k j hw h2 h3) (by omega)
    · rw [ck _ (by omega)] at h2 h3; rw [ck _ (by omega), ck _ (by omega)]; exact a7 w k i j hw h2 h3 h4
    · rw [ck _ (by omega)] at h2 h3; rw [ck _ (by omega), hs _ (by omega)]; exact a8 w k j hw h2 h3
    · rw [ck _ (by omega)] at h2; rw [ck _ (by omega), sum_cg fun j hj => ck _ (by omega)]; exact a9 w k hw h2
    · rw [hs _ (by omega)]; exact b1 w hw
    · rw [ck _ (by omega)] at h2; rw [hs _ (by omega)]; exact b2 w i hw h2
    · rw [ck _ (by omega)] at h2; rw [hs _ (by omega)]; exact b3 w i hw h2
    · rw [ck _ (by omega), sum_cg fun j hj => ck _ (by omega)]; exact b4 w hw
    · rw [hs _ (by omega), hs _ (by omega)]; exact b5 w hw h2
  · obtain ⟨a1, a2, a3, a4, a5, a6, a7⟩ := a
    have e2 : cN (pyS s l) 2 = cN s 2 := cN_cg (hs _ (by omega))
    refine ⟨fun a ha => ?_, fun a ha => ?_, fun a ha => ?_, fun a ha => ?_, fun a ha => ?_, fun a ha => ?_, fun p w day => ?_⟩
    all_goals try rw [e2] at ha
    · exact wk (a1 a ha) (by omega)
    · rw [hs _ (by omega), e1]; exact a2 a ha
    · exact wk (a3 a ha) (by omega)
    · rw [hs _ (by omega)]; exact a4 a ha
    · rw [hs _ (by omega)]; exact a5 a ha
    · rw [hs _ (by omega)]; exact a6 a ha
    · rw [e2, lv_cg (by omega) (fun k h1 h2 => hs k (by omega))]; exact a7 p w day
  · obtain ⟨a1, a2, a3, a4, a5, a6, a7⟩ := d
    have e3 : cN (pyS s l) 3 = cN s 3 := cN_cg (hs _ (by omega))
    refine ⟨fun a ha => ?_, fun a ha => ?_, fun a ha => ?_, fun a ha => ?_, fun a ha => ?_, fun a ha => ?_, fun a ha hb => ?_⟩
    all_goals rw [e3] at ha
    · exact wk (a1 a ha) (by omega)
    · exact wk (a2 a ha) (by omega)
    · rw [hs _ (by omega)]; exact a3 a ha
    · rw [hs _ (by omega), ck _ (by omega)]; exact a4 a ha
    · rw [hs _ (by omega), e1]; exact a5 a ha
    · rw [hs _ (by omega)]; exact a6 a ha
    · rw [hs _ (by omega)]; exact a7 a ha hb
  · obtain ⟨a1, a2, a3, a4⟩ := li
    have e6 : cN (pyS s l) 6 = cN s 6 := cN_cg (hs _ (by omega))
    refine ⟨fun a ha => ?_, fun a ha => ?_, fun a ha => ?_, fun a ha => ?_⟩
    all_goals rw [e6] at ha
    · rw [hs _ (by omega), e1]; exact a1 a ha
    · exact wk (a2 a ha) (by omega)
    · rw [hs _ (by omega)]; exact a3 a ha
    · rw [hs _ (by omega)]; exact a4 a ha
  · obtain ⟨a1, a2, a3, a4⟩ := z
    refine ⟨fun p h1 h2 => ?_, fun p c h1 h2 h3 => ?_, fun p c h1 h2 h3 => ?_, fun w h2 h3 => ?_⟩
    · rw [e0] at h1; rw [hq _ (by omega)]; exact a1 p (by omega) h2
    · rw [e0] at h1; rw [hq _ (by omega)]; exact a2 p c (by omega) h2 h3
    · rw [e0] at h1; rw [hq _ (by omega)]; exact a3 p c (by omega) h2 h3
    · rw [e1] at h2; rw [hq _ (by omega)]; exact a4 w h2 h3
  · exact k.cg (hs _ (by omega)) (hs _ (by omega))
  · obtain ⟨a1, a2, a3, a4⟩ := nn
    have en : pyQ s q nm (462 + cN s 0) = nm := if_pos rfl
    refine ⟨fun i j h2 h3 => ?_, fun i j h2 h3 => ?_, fun i h3 => ?_, fun i h3 => ?_⟩
    · rw [e0] at h3
      by_cases e : j = cN s 0
      · rw [e, en, hq _ (by omega)]; exact hne i (by omega)
      · rw [hq _ (by omega), hq _ (by omega)]; exact a1 i j h2 (by omega)
    · rw [e1] at h3; rw [hq _ (by omega), hq _ (by omega)]; exact a2 i j h2 h3
    · rw [e0] at h3
      by_cases e : i = cN s 0
      · rw [e, en]; exact hg
      · rw [hq _ (by omega)]; exact a3 i (by omega)
    · rw [e1] at h3; rw [hq _ (by omega)]; exact a4 i h3
  · intro p hp
    rw [hq _ (by omega)]; exact hb p hp
end P83
