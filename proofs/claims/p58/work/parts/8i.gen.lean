/-! the generator's small steps -/
section G8
variable {sa sv d a b c k n x t : Nat} {m m1 m2 : am_M} {l w : List Int32} {P : Nat → Prop}
theorem x292 (hk : (gk_ m a).1 = 2 ∨ (gk_ m a).1 = 7) (h2 : (gk_ m a).2 < 2 ^ 20) (h3 : k < 2 ^ 30) : ∃ v, am_ca sa sv (d + 1) 292 [.ref a, .int (nI k)] m = some (.inl (some (.int v)), m) := by
  rw [c292, b292_0, gq_pos (by omega)]
  by_cases q : (gk_ m a).2 ≤ k
  · rw [gb_pos (by rw [nI_leE (by omega) (by omega)]; exact q)]
    exact ⟨_, rfl⟩
  · rw [gb_neg (by rw [nI_leE (by omega) (by omega)]; exact q), gq_pos ⟨hk, in_of (by omega) (by omega)⟩]
    exact ⟨_, rfl⟩
theorem x293 (hk : (gk_ m a).1 = 2 ∨ (gk_ m a).1 = 7) (h2 : (gk_ m a).2 < 2 ^ 20) (h3 : k < 2 ^ 30) (h4 : 0 < n) (h5 : n < 2 ^ 31) : ∃ v, v < n ∧ am_ca sa sv (d + 2) 293 [.ref a, .int (nI k), .int (nI n)] m = some (.inl (some (.int (nI v))), m) := by
  obtain ⟨v, e⟩ := x292 (sa := sa) (sv := sv) (d := d) hk h2 h3
  refine ⟨v.toBitVec.toNat % 2147483648 % n, Nat.mod_lt _ h4, ?_⟩
  rw [c293, b293_0, e, ci_v, gq_pos (by rw [nI_eq0 h5]; omega), and31, pk_rem (Nat.mod_lt _ (by omega)) h4 h5]
/-- the World at x reads its script from number t on -/
def XN (m : am_M) (x t : Nat) : Prop := gk_ m x = (1, 12) ∧ gi_ m x 16 = 1 ∧ ((gk_ m (gr_ m x 16)).1 = 7 ∧ (gk_ m (gr_ m x 16)).2 < 2 ^ 20) ∧ gi_ m x 17 = nI t ∧ x < gt_ m ∧ gr_ m x 16 < gt_ m
theorem XN.up (h : XN m x t) : XN (si_ m x 17 (nI (t + 1))) x (t + 1) := by
  obtain ⟨h1, h2, h3, h4, h5, h6⟩ := h
  exact ⟨h1, by rw [gi_si, if_neg (fun z => absurd z.2 (by decide)), h2], h3, gi_si1 _ _ _ _, h5, h6⟩
theorem x276 (h : XN m x t) (ht : t < 2 ^ 20) (h4 : 0 < n) (h5 : n < 2 ^ 31) : ∃ v, v < n ∧ am_ca sa sv (d + 3) 276 [.ref x, .int (nI n)] m = some (.inl (some (.int (nI v))), si_ m x 17 (nI (t + 1))) := by
  obtain ⟨h1, h2, h3, h6, h7, h8⟩ := h
  obtain ⟨v, hv, e⟩ := x293 (sa := sa) (sv := sv) (d := d) (m := si_ m x 17 (nI (t + 1))) (a := gr_ m x 16) (k := t + 1) (n := n) (.inr h3.1) h3.2 (by omega) h4 h5
  refine ⟨v, hv, ?_⟩
  have s16 : gi_ (si_ m x 17 (nI (t + 1))) x 16 = 1 := by rw [gi_si, if_neg (fun z => absurd z.2 (by decide)), h2]
  rw [c276, b276_0, gq_pos h1, gq_pos h1, h6, nI_add, gq_pos ⟨h1, s16⟩, gq_pos h1, gi_si1, e, ci_v]
/-- a builder doesn't see writes of ints elsewhere -/
theorem SBv.six {i : Nat} {v : Int32} (h : SBv m b l) (n1 : ¬ a = b) (n2 : ¬ (gk_ m a).1 = 3) : SBv (si_ m a i v) b l := by
  obtain ⟨c, h1, h3, h4, h5, h6, h7, h8, h9, h10, h11, h12, h13⟩ := h
  have n3 : ¬ gr_ m b 0 = a := fun z => n2 (by rw [← z, h5])
  have n4 : ¬ b = a := fun z => n1 z.symm
  exact ⟨c, h1, by rw [gi_si, if_neg (fun z => n4 z.1)]; exact h3, h4, h5, h6, h7, by rw [gi_si, if_neg (fun z => n4 z.1)]; exact h8, fun j hj => by rw [gr_si, gi_si, if_neg (fun z => n3 z.1)]; exact h9 j hj, h10, h11, h12, h13⟩
theorem KS.six {i : Nat} {v : Int32} (h : KS sa m sv) (hk : ¬ (gk_ m a).1 = 0 ∧ ¬ (gk_ m a).1 = 8 ∧ ¬ (gk_ m a).1 = 9) : KS sa (si_ m a i v) sv :=
  h.ex (P := fun y => y = a) (n := 0) (z := 0) ((Ex.refl _ _).si (.inr rfl)) (fun y _ q => by rw [q]; exact hk)
theorem x277 (hx : gk_ m x = (1, 12)) (hK : KS sa m sv) (h : SBv m b l) (h2 : l.length + 3 ≤ 1000) : ∃ i v m', (i = 7 ∨ i = 8) ∧ am_ca sa sv (d + 6) 277 [.ref x, .ref b] m = some (.inl none, m') ∧ KS sa m' sv ∧ SBv m' b (l ++ kb_ i) ∧ Eb b 1 2002 (si_ m x 15 v) m' := by
  have kb : gk_ m b = (1, 13) := h.choose_spec.1
  have nxb : ¬ x = b := fun z => by
    rw [z, kb] at hx
    exact absurd (congrArg (fun q => q.2) hx) (by show ¬ 13 = 12; decide)
  have h' := h.six (i := 15) (v := gi_ m x 15 + nI 1) nxb (by rw [hx]; show ¬ 1 = 3; decide)
  have K' := hK.six (i := 15) (v := gi_ m x 15 + nI 1) (a := x) (by rw [hx]; exact ⟨by show ¬ 1 = 0; decide, by show ¬ 1 = 8; decide, by show ¬ 1 = 9; decide⟩)
  have rs : gr_ (si_ m x 15 (gi_ m x 15 + nI 1)) sv = gr_ m sv := rfl
  rw [c277, b277_0, gq_pos hx, gq_pos hx, gq_pos hx, gq_pos (by decide)]
  by_cases q : (gi_ (si_ m x 15 (gi_ m x 15 + nI 1)) x 15 - gi_ (si_ m x 15 (gi_ m x 15 + nI 1)) x 15 / nI 5 * nI 5) = nI 2
  · obtain ⟨m1, e1, K1, b1, x1⟩ := st_c (sa := sa) (d := d) K' h' (i := 7) (by omega) (by show l.length + 3 ≤ 1000; omega)
    rw [rs] at e1
    exact ⟨7, _, m1, .inl rfl, by rw [gb_pos q, gq_pos kb, e1, cr_v], K1, b1, x1⟩
  · obtain ⟨m1, e1, K1, b1, x1⟩ := st_c (sa := sa) (d := d) K' h' (i := 8) (by omega) (by show l.length + 1 ≤ 1000; omega)
    rw [rs] at e1
    exact ⟨8, _, m1, .inr rfl, by rw [gb_neg q, gq_pos kb, e1, cr_v], K1, b1, x1⟩
theorem nm_app {m4 : am_M} {t i p : Nat} (h : SBv m b l) (K4 : KS sa m4 sv) (S4 : SV m4 t (nm_ i p)) (x4 : Ex NoP 6 6000 m m4) (g1 : gt_ m ≤ t) (g2 : t < gr_ m4 t 0) (g3 : gr_ m4 t 0 < gt_ m4) (hi : i = 9 ∨ i = 10) (h2 : l.length + 2 ≤ 1000) : gk_ m4 b = (1, 13) ∧ ∃ m5, am_ca sa sv (d + 5) 221 [.ref b, .ref t] m4 = some (.inl (some (.ref b)), m5) ∧ KS sa m5 sv ∧ SBv m5 b (l ++ nm_ i p) ∧ Eb b 7 8002 m m5 := by
  have h4 := h.no x4
  obtain ⟨c, hc⟩ := h
  have hb : b < gt_ m := hc.2.2.2.2.2.2.2.2.2.1
  have ha : gr_ m b 0 < gt_ m := hc.2.2.2.2.2.2.2.2.2.2.1
  have rb : gr_ m4 b = gr_ m b := x4.r hb (fun z => z)
  obtain ⟨m5, e5, b5, x5⟩ := x221 (sa := sa) (sv := sv) (d := d) h4 S4 (by omega) g3 (by rw [rb]; omega) (by omega) (by omega) (by rw [rb]; omega) (by rw [nm_len hi]; exact h2)
  refine ⟨h4.choose_spec.1, m5, e5, K4.eb h4 x5, b5, ?_, ?_⟩
  · have y4 : Ex (SBp m b) 6 6000 m m4 := x4.mono (fun _ _ q => absurd q id) (Nat.le_refl _) (Nat.le_refl _)
    exact (y4.trans x5.1 (fun y hy q => by unfold SBp at q ⊢; rw [rb] at q; exact q)).mono (fun _ _ q => q) (by omega) (by omega)
  · rw [← rb]
    rcases x5.2 with q | q
    · exact .inl q
    · exact .inr (Nat.le_trans x4.gt q)
end G8
