/-! the builder: a sign, a new one, its text -/
section B8
variable {sa sv d b c : Nat} {m m1 : am_M} {l : List Int32}
def NoP : Nat → Prop := fun _ => False
theorem x254 {k : Nat} (hk : k < 128) : am_ca sa sv (d + 1) 254 [.int (nI k)] m = some (.inl (some (.int (nI 1))), m) := by
  rw [c254, b254_0, gb_neg (by rw [nI_ltI (by omega) (by omega)]; omega), gq_pos (by decide)]
/-- behind a sign that a builder's array got -/
theorem SBc.ap1 (h : SBc m b c l) {k : Nat} (hk : k < 128) (hc : l.length + 1 ≤ c) : SBc (si_ (si_ m b 3 (nI (l.length + 1))) (gr_ m b 0) l.length (nI k)) b c (l ++ [nI k]) := by
  obtain ⟨h1, h3, h4, h5, h6, h7, h8, h9, h10, h11, h12, h13⟩ := h
  have nb : ¬ gr_ m b 0 = b := fun z => by rw [z, h1] at h5; exact absurd (congrArg (fun q => q.1) h5) (by show ¬ 1 = 3; decide)
  have nb' : ¬ b = gr_ m b 0 := fun z => nb z.symm
  have len : (l ++ [nI k]).length = l.length + 1 := List.length_append
  refine ⟨h1, ?_, h4, h5, by rw [len]; exact hc, h7, ?_, fun j hj => ?_, h10.app (fun q hq => ⟨k, hk, List.mem_singleton.mp hq⟩), h11, h12, h13⟩
  · rw [gi_si, if_neg (fun z => nb' z.1), gi_si, if_neg (fun z => absurd z.2 (by decide)), h3]
  · rw [gi_si, if_neg (fun z => nb' z.1), gi_si1, len]
  · rw [len] at hj
    show gi_ (si_ (si_ m b 3 _) (gr_ m b 0) l.length (nI k)) (gr_ m b 0) j = _
    rw [gi_si, app_at]
    by_cases q : j < l.length
    · rw [if_neg (by omega), gi_si, if_neg (fun z => nb z.1), if_pos q, h9 j q]
    · have e : j = l.length := by omega
      rw [if_pos ⟨rfl, e⟩, if_neg q, e, Nat.sub_self]
      rfl
theorem x261 {k : Nat} (h : SBv m b l) (hk : k < 128) (h2 : l.length + 1 ≤ 1000) : ∃ m', am_ca sa sv (d + 4) 261 [.ref b, .int (nI k)] m = some (.inl (some (.ref b)), m') ∧ SBv m' b (l ++ [nI k]) ∧ Eb b 1 2002 m m' := by
  obtain ⟨c, h⟩ := h
  obtain ⟨m1, c1, e1, b1, c2, x1⟩ := x258 (sa := sa) (sv := sv) (d := d) h (l.length + 1) h2
  have k1 := b1.1
  have l3 := b1.2.2.2.2.2.2.1
  obtain ⟨_, _, f3⟩ := ch_f k hk
  refine ⟨_, ?_, ⟨c1, b1.ap1 hk c2⟩, ⟨?_, x1.2⟩⟩
  · rw [c261, b261_0, gq_pos h.1, gq_pos h.1, h.2.2.2.2.2.2.1, nI_add, e1, c0_v, gq_pos k1, x264 b1, ci_v, gb_neg (by decide), x254 hk, ci_v, gb_neg (by decide), gq_pos ⟨k1, b1.2.2.1⟩, gq_pos k1, gq_pos k1, l3, gq_pos ⟨by rw [b1.2.2.2.1], by rw [b1.2.2.2.1]; exact in_of (by show _ < c1; omega) (by have := b1.fits; show c1 < _; omega)⟩, nI_add, nI_clamp (by omega), f3, f3]
  · refine (x1.1.si (.inr (.inl rfl))).si ?_
    rcases x1.2 with q | q
    · exact .inr (.inr q)
    · exact .inl q
theorem x222 {k : Nat} (h : SBv m b l) (hk : k < 128) (h2 : l.length + 1 ≤ 1000) : ∃ m', am_ca sa sv (d + 5) 222 [.ref b, .int (nI k)] m = some (.inl (some (.ref b)), m') ∧ SBv m' b (l ++ [nI k]) ∧ Eb b 1 2002 m m' := by
  obtain ⟨m1, e1, b1, x1⟩ := x261 (sa := sa) (sv := sv) (d := d) h hk h2
  exact ⟨m1, by rw [c222, b222_0, gq_pos h.choose_spec.1, e1, cr_v], b1, x1⟩
theorem x220 {z : Nat} (hg : ge_ m = true) : ∃ m', am_ca sa sv (d + 2) 220 [.ref (gt_ m)] (al_ m (1, 13) z) = some (.inl none, m') ∧ SBv m' (gt_ m) [] ∧ Ex NoP 2 (z + 16) m m' ∧ gt_ m < gr_ m' (gt_ m) 0 := by
  generalize hM : al_ m (1, 13) z = M
  have gM : gt_ M = gt_ m + 1 := by rw [← hM]; rfl
  have kM : gk_ M (gt_ m) = (1, 13) := by rw [← hM, gk_al]
  have iM : ∀ k, gi_ M (gt_ m) k = 0 := fun k => by rw [← hM, gi_al]
  have lt : gt_ m < gt_ M := by omega
  have kb : gk_ (al_ M (3, 16) 16) (gt_ m) = (1, 13) := by rw [gk_alo _ _ _ lt, kM]
  have gt : gt_ (al_ M (3, 16) 16) = gt_ m + 2 := by
    show gt_ M + 1 = _
    omega
  have hgM : ge_ M = true := by rw [← hM]; exact hg
  refine ⟨si_ (sr_ (al_ M (3, 16) 16) (gt_ m) 0 (gt_ M)) (gt_ m) 1 (nI 0), ?_, ⟨16, ?_⟩, ?_, ?_⟩
  · rw [c220, b220_0, c256, b256_0, gb_neg (by decide), nI_clamp (by omega), gq_pos ⟨by decide, by decide, hgM⟩, gq_pos ⟨kb, by omega⟩, gq_pos ⟨kb, by decide⟩, c0_v]
  · have r0 : gr_ (si_ (sr_ (al_ M (3, 16) 16) (gt_ m) 0 (gt_ M)) (gt_ m) 1 (nI 0)) (gt_ m) 0 = gt_ M := by rw [gr_si, gr_sr, if_pos ⟨rfl, rfl⟩]
    refine ⟨kb, gi_si1 _ _ _ _, by rw [r0]; omega, by rw [r0]; exact gk_al M (3, 16) 16, Nat.zero_le _, by omega, ?_, fun j hj => absurd hj (Nat.not_lt_zero _), fun q hq => absurd hq (List.not_mem_nil), ?_, ?_, hgM⟩
    · rw [gi_si, if_neg (fun z => absurd z.2 (by decide)), gi_sr, gi_alo _ _ _ lt, iM]
      rfl
    · show gt_ m < gt_ (al_ M (3, 16) 16)
      omega
    · rw [r0]
      show gt_ M < gt_ (al_ M (3, 16) 16)
      omega
  · have e : Ex NoP (1 + 1) (z + 16) m (al_ M (3, 16) 16) := by
      have e1 : Ex NoP 1 z m M := by
        rw [← hM]
        exact Ex.al m _ _
      exact e1.trans (Ex.al M _ _) (fun _ _ q => q)
    exact (e.sr (.inl (Nat.le_refl _))).si (.inl (Nat.le_refl _))
  · rw [gr_si, gr_sr, if_pos ⟨rfl, rfl⟩]
    exact lt
theorem x252 (a n c : Nat) (ha : gk_ m a = (3, c)) (hc : n ≤ c) (hn : c ≤ 60000) (hg : ge_ m = true) (hlt : a < gt_ m) : ∃ g, am_ca sa sv (d + 3) 252 [.ref a, .int (nI 0), .int (nI n)] m = some (.inl (some (.ref (gt_ m))), ri_ (al_ m (3, n) n) (gt_ m) g) ∧ ∀ j, j < n → g j = gi_ m a j := by
  by_cases e : n = c
  · refine ⟨gi_ m a, ?_, fun _ _ => rfl⟩
    rw [c252, b252_0, gb_pos (by decide), gq_pos (by rw [ha]; show 2 ≤ 3 ∧ ¬ 3 = 8; decide), gb_pos (by rw [ha, e]), ha, gq_pos ⟨rfl, hg⟩, gq_pos (by rw [gk_al]; exact ⟨rfl, fun z => absurd z (by decide)⟩), e]
  · refine ⟨va_cpy (gi_ m a) (fun _ => 0) 0 0 n, ?_, fun j hj => ?_⟩
    · rw [c252, b252_0, gb_pos (by decide), gq_pos (by rw [ha]; show 2 ≤ 3 ∧ ¬ 3 = 8; decide), gb_neg (by rw [ha, nI_eqE (by omega) (by show c < _; omega)]; exact e)]
      rw [c253, b253_0, c251, b251_0, gb_pos (by rw [nI_leE (by omega) (by omega)]; omega), c0_v]
      simp (disch := omega) only [gq_true, gb_true, gb_false, true_and, and_true, eq_self, not_false_eq_true, not_true_eq_false, true_or, or_true, false_or, or_false, false_and, and_false, c0_v, ci_v, cl_v, cf_v, pk_mul, nI_add, nI_clamp, nI_lt0, nI_0le, nI_eq0, nI_lt0r, nI_ltE, nI_leE, nI_eqE, nI_m1, in_t, ba0, ba1, Nat.one_ne_zero, Nat.reduceEqDiff, Nat.reduceLeDiff, Nat.add_eq_zero_iff, nI_sub, Nat.sub_zero, gk_alo _ _ _ hlt, gk_al, ha, gi_alo _ _ _ hlt, gi_alf, hg, eq_true (show n < c by omega), if_true, eq_true (show n ≤ 60000 by omega), eq_true hc, Nat.zero_add, Nat.le_refl, cr_v]
    · rw [cpy1, if_pos (by omega), Nat.sub_zero, Nat.zero_add]
/-- the builder's text as a new string -/
theorem x224 (h : SBv m b l) (h2 : l.length ≤ 1000) : ∃ m', am_ca sa sv (d + 6) 224 [.ref b] m = some (.inl (some (.ref (gt_ m))), m') ∧ SV m' (gt_ m) l ∧ SBv m' b l ∧ Ex NoP 2 1004 m m' ∧ gt_ m < gr_ m' (gt_ m) 0 ∧ gr_ m' (gt_ m) 0 < gt_ m' ∧ gk_ m' (gt_ m) = (1, 14) ∧ gr_ m' b = gr_ m b := by
  obtain ⟨c, h⟩ := h
  have hf := h.fits
  have hge := h.2.2.2.2.2.2.2.2.2.2.2
  generalize hM : al_ m (1, 14) 4 = M
  have gM : gt_ M = gt_ m + 1 := by rw [← hM]; rfl
  have kM : gk_ M (gt_ m) = (1, 14) := by rw [← hM, gk_al]
  have lt : gt_ m < gt_ M := by omega
  have eM : Ex NoP 1 4 m M := by
    rw [← hM]
    exact Ex.al m _ _
  have hlb : b < gt_ m := h.2.2.2.2.2.2.2.2.2.1
  have hla : gr_ m b 0 < gt_ m := h.2.2.2.2.2.2.2.2.2.2.1
  have no : ∀ a, ¬ NoP a := fun _ z => z
  have rb : gr_ M b = gr_ m b := eM.r hlb (no _)
  generalize hW : si_ M (gt_ m) 1 (nI 0) = W
  have eW : Ex NoP 1 4 m W := by
    rw [← hW]
    exact eM.si (.inl (Nat.le_refl _))
  have gW : gt_ W = gt_ m + 1 := by rw [← hW]; exact gM
  have hgW : ge_ W = true := (eW.ge).trans hge
  have rbW : gr_ W b = gr_ m b := eW.r hlb (no _)
  have bM : SBc M b c l := by
    obtain ⟨h1, h3, h4, h5, h6, h7, h8, h9, h10, h11, h12, h13⟩ := h
    refine ⟨(eM.k hlb).trans h1, (congrFun (eM.i hlb (no _)) 1).trans h3, by rw [rb]; exact h4, by rw [rb, eM.k hla]; exact h5, h6, h7, (congrFun (eM.i hlb (no _)) 3).trans h8, fun j hj => by rw [rb, eM.i hla (no _)]; exact h9 j hj, h10, by omega, by rw [rb]; omega, (eM.ge).trans h13⟩
  obtain ⟨g, e1, g1⟩ := x252 (sa := sa) (sv := sv) (d := d) (m := W) (gr_ m b 0) l.length c (by rw [eW.k hla]; exact h.2.2.2.1) hf.2 (by omega) hgW (by omega)
  have kW : gk_ W (gt_ m) = (1, 14) := by rw [← hW]; exact kM
  have kA : gk_ (al_ W (3, l.length) l.length) (gt_ m) = (1, 14) := by rw [gk_alo _ _ _ (by omega), kW]
  generalize hZ : ri_ (al_ W (3, l.length) l.length) (gt_ W) g = Z at e1
  have gZ : gt_ Z = gt_ m + 2 := by
    rw [← hZ]
    show gt_ W + 1 = _
    omega
  have kZ : gk_ Z = gk_ (al_ W (3, l.length) l.length) := by rw [← hZ]; rfl
  have eZ : Ex NoP 2 1004 m Z := by
    have : Ex NoP (1 + 1) (4 + l.length) m Z := by
      rw [← hZ]
      exact (eW.trans (Ex.al W _ _) (fun _ _ q => q)).ri (.inl (by omega))
    exact this.mono (fun _ _ q => q) (by omega) (by omega)
  have eY : Ex NoP 2 1004 m (sr_ Z (gt_ m) 0 (gt_ W)) := eZ.sr (.inl (Nat.le_refl _))
  have iZ : ∀ a k, gi_ Z a k = if a = gt_ W then g k else gi_ (al_ W (3, l.length) l.length) a k := fun a k => by rw [← hZ, gi_ri]
  have r0 : gr_ (sr_ Z (gt_ m) 0 (gt_ W)) (gt_ m) 0 = gt_ W := by rw [gr_sr, if_pos ⟨rfl, rfl⟩]
  have kt : gk_ (sr_ Z (gt_ m) 0 (gt_ W)) (gt_ m) = (1, 14) := by rw [gk_sr, kZ, kA]
  have rY : gr_ (sr_ Z (gt_ m) 0 (gt_ W)) b = gr_ m b := eY.r hlb (no _)
  refine ⟨sr_ Z (gt_ m) 0 (gt_ W), ?_, ⟨.inl ⟨kt, by rw [r0]; omega⟩, ?_, ?_, ?_, ?_, by omega, h.2.2.2.2.2.2.2.2.1⟩, ⟨c, ?_⟩, eY, by rw [r0]; omega, by rw [r0]; show gt_ W < gt_ Z; omega, kt, rY⟩
  · rw [c224, b224_0, gq_pos hge, hM, c226, b226_0, c229, b229_0, gq_pos bM.1, x263 bM, cr_v, gq_pos bM.1, x225 bM, ci_v, gq_pos bM.1, x264 bM, ci_v, gb_neg (by decide), gq_pos ⟨kM, by decide⟩, hW, rb, e1, cr_v, gq_pos ⟨by rw [kZ, kA], by omega⟩, c0_v, c0_v]
  · rw [gi_sr, iZ, if_neg (by omega), gi_alo _ _ _ (by omega), ← hW, gi_si1]
    rfl
  · rw [r0, gk_sr, kZ, gk_al]
    exact .inl rfl
  · rw [r0, gk_sr, kZ, gk_al]
  · intro j hj
    rw [r0, gi_sr, iZ, if_pos rfl, g1 j hj, eW.i hla (no _)]
    exact h.2.2.2.2.2.2.2.1 j hj
  · obtain ⟨h1, h3, h4, h5, h6, h7, h8, h9, h10, h11, h12, h13⟩ := h
    refine ⟨(eY.k hlb).trans h1, (congrFun (eY.i hlb (no _)) 1).trans h3, by rw [rY]; exact h4, by rw [rY, eY.k hla]; exact h5, h6, h7, (congrFun (eY.i hlb (no _)) 3).trans h8, fun j hj => by rw [rY, eY.i hla (no _)]; exact h9 j hj, h10, ?_, ?_, (eY.ge).trans h13⟩
    · show b < gt_ Z
      omega
    · rw [rY]
      show _ < gt_ Z
      omega
end B8
