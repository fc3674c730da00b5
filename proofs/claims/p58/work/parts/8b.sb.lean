/-! the builder of texts -/
theorem nI_sub {a b : Nat} (h : b ≤ a) : nI a - nI b = nI (a - b) := pk_sub h
theorem nI_subT {a b : Nat} (ha : a < 2 ^ 30) (hb : b < 2 ^ 30) : (nI a - nI b).toInt = (a : Int) - b := by
  rw [Int32.toInt_sub, nI_toInt (by omega), nI_toInt (by omega)]
  exact Int.bmod_eq_of_le (by omega) (by omega)
theorem nI_dle {a b : Nat} (ha : a < 2 ^ 30) (hb : b < 2 ^ 30) : (nI a - nI b ≤ 0) = (a ≤ b) := propext (by
  rw [Int32.le_iff_toInt_le, nI_subT ha hb, z32]; omega)
theorem nI_dlt {a b c : Nat} (ha : a < 2 ^ 30) (hb : b < 2 ^ 30) (hc : c < 2 ^ 30) : (nI a - nI b < nI c) = (a < b + c) := propext (by
  rw [Int32.lt_iff_toInt_lt, nI_subT ha hb, nI_toInt (by omega)]; omega)
theorem sh0 (x : Int32) : x >>> (nI 0 &&& 31) = x := by rw [show (nI 0 &&& 31 : Int32) = 0 from by decide, Int32.shiftRight_zero]
theorem sl0 (x : Int32) : x <<< (nI 0 &&& 31) = x := by rw [show (nI 0 &&& 31 : Int32) = 0 from by decide, Int32.shiftLeft_zero]
/-- what a builder's work may change -/
def SBp (m : am_M) (b a : Nat) : Prop := a = b ∨ a = gr_ m b 0
def Eb (b n z : Nat) (m m' : am_M) : Prop := Ex (SBp m b) n z m m' ∧ (gr_ m' b 0 = gr_ m b 0 ∨ gt_ m ≤ gr_ m' b 0)
/-- the builder at b, with room for c, holds l -/
def SBc (m : am_M) (b c : Nat) (l : List Int32) : Prop := gk_ m b = (1, 13) ∧ gi_ m b 1 = nI 0 ∧ ¬ gr_ m b 0 = 0 ∧ gk_ m (gr_ m b 0) = (3, c) ∧ l.length ≤ c ∧ c ≤ 2002 ∧ gi_ m b 3 = nI l.length ∧ (∀ j, j < l.length → gi_ m (gr_ m b 0) j = l.getD j 0) ∧ Asc l ∧ b < gt_ m ∧ gr_ m b 0 < gt_ m ∧ ge_ m = true
def SBv (m : am_M) (b : Nat) (l : List Int32) : Prop := ∃ c, SBc m b c l
section B8
variable {sa sv d b c : Nat} {m m1 : am_M} {l : List Int32}
theorem Eb.refl (b : Nat) (m : am_M) : Eb b 0 0 m m := ⟨Ex.refl _ _, .inl rfl⟩
theorem Eb.trans {n z n' z' : Nat} {m2 : am_M} (h : Eb b n z m m1) (h' : Eb b n' z' m1 m2) : Eb b (n + n') (z + z') m m2 := by
  obtain ⟨a1, a2⟩ := h
  obtain ⟨b1, b2⟩ := h'
  have g := a1.gt
  refine ⟨a1.trans b1 (fun a ha q => ?_), by omega⟩
  unfold SBp at q ⊢
  omega
theorem Eb.mono {n z n' z' : Nat} (h : Eb b n z m m1) (hn : n ≤ n') (hz : z ≤ z') : Eb b n' z' m m1 := ⟨h.1.mono (fun _ _ q => q) hn hz, h.2⟩
theorem Eb.sib {n z k : Nat} {v : Int32} (h : Eb b n z m m1) : Eb b n z m (si_ m1 b k v) := ⟨h.1.si (.inr (.inl rfl)), h.2⟩
theorem x250 (a n c : Nat) (ha : gk_ m a = (3, c)) (hc : c < n) (hn : n ≤ 60000) (hg : ge_ m = true) (hlt : a < gt_ m) : am_ca sa sv (d + 1) 250 [.ref a, .int (nI n)] m = some (.inl (some (.ref (gt_ m))), ri_ (al_ m (3, n) n) (gt_ m) (va_cpy (gi_ m a) (fun _ => 0) 0 0 c)) := by
  rw [c250, b250_0, gq_pos (by rw [ha]; show 2 ≤ 3 ∧ ¬ 3 = 8; decide), gb_neg (by rw [ha, nI_eqE (by omega) (by show c < _; omega)]; omega)]
  simp (disch := omega) only [gq_true, gb_true, gb_false, true_and, and_true, eq_self, not_false_eq_true, not_true_eq_false, true_or, or_true, false_or, or_false, false_and, and_false, c0_v, ci_v, cl_v, cf_v, pk_mul, nI_add, nI_clamp, nI_lt0, nI_0le, nI_eq0, nI_lt0r, nI_ltE, nI_leE, nI_eqE, nI_m1, in_t, ba0, ba1, Nat.one_ne_zero, Nat.reduceEqDiff, Nat.reduceLeDiff, Nat.add_eq_zero_iff, gk_alo _ _ _ hlt, gk_al, ha, gi_alo _ _ _ hlt, gi_alf, hg, eq_false (show ¬ n < c by omega), if_false, eq_true hn, eq_true (show c ≤ n by omega), Nat.zero_add, Nat.le_refl]
theorem x269 (c n : Nat) (hc : c ≤ 2002) (hn : c < n) (h2 : n ≤ 1000) : am_ca sa sv (d + 1) 269 [.int (nI c), .int (nI (n - c)), .int (nI (c + 2))] m = some (.inl (some (.int (nI (c + if n - c < c + 2 then c + 2 else n - c)))), m) := by
  rw [c269, b269_0]
  have e : (if nI (n - c) < nI (c + 2) then nI (c + 2) else nI (n - c)) = nI (if n - c < c + 2 then c + 2 else n - c) := by
    by_cases q : n - c < c + 2
    · rw [if_pos q, if_pos ((nI_ltI (by omega) (by omega)).mpr q)]
    · rw [if_neg q, if_neg (fun z => q ((nI_ltI (by omega) (by omega)).mp z))]
  have h3 : (if n - c < c + 2 then c + 2 else n - c) ≤ 2004 := by split <;> omega
  generalize hx : (if n - c < c + 2 then c + 2 else n - c) = x at e h3
  have h4 : 0 < x := by rw [← hx]; split <;> omega
  rw [e]
  simp (disch := omega) only [gq_true, gb_true, gb_false, true_and, and_true, eq_self, not_false_eq_true, not_true_eq_false, true_or, or_true, false_or, or_false, false_and, and_false, c0_v, ci_v, cl_v, cf_v, pk_mul, nI_add, nI_clamp, nI_lt0, nI_0le, nI_eq0, nI_lt0r, nI_ltE, nI_leE, nI_eqE, nI_m1, in_t, ba0, ba1, Nat.one_ne_zero, Nat.reduceEqDiff, Nat.reduceLeDiff, Nat.add_eq_zero_iff, eq_false (show ¬ c + x ≤ 0 by omega), eq_false (show ¬ 2147483639 < c + x by omega)]
theorem x259 (h : SBc m b c l) (n : Nat) (hn : c < n) (h2 : n ≤ 1000) : am_ca sa sv (d + 2) 259 [.ref b, .int (nI n)] m = some (.inl (some (.int (nI (c + if n - c < c + 2 then c + 2 else n - c)))), m) := by
  obtain ⟨h1, h3, h4, h5, h6, h7, h8, h9, h10, h11, h12, h13⟩ := h
  have h14 : (c + if n - c < c + 2 then c + 2 else n - c) < 2147483647 := by split <;> omega
  rw [c259, b259_0]
  simp only [h1, h5, h3, sl0, sh0, nI_add, nI_sub (Nat.le_of_lt hn), h4, x269 (sa := sa) (sv := sv) (d := d) (m := m) c n h7 hn h2, gq_true, not_false_eq_true, and_true, ci_v]
  simp (disch := omega) only [gq_true, gb_true, gb_false, true_and, and_true, eq_self, not_false_eq_true, not_true_eq_false, true_or, or_true, false_or, or_false, false_and, and_false, c0_v, ci_v, cl_v, cf_v, pk_mul, nI_add, nI_clamp, nI_lt0, nI_0le, nI_eq0, nI_lt0r, nI_ltE, nI_leE, nI_eqE, nI_m1, in_t, ba0, ba1, Nat.one_ne_zero, Nat.reduceEqDiff, Nat.reduceLeDiff, Nat.add_eq_zero_iff, eq_false (show ¬ (c + if n - c < c + 2 then c + 2 else n - c) = 2147483647 by omega), sh0, sl0, h1, h3, show ¬ 3 = 8 by decide]
theorem x258 (h : SBc m b c l) (n : Nat) (h2 : n ≤ 1000) : ∃ m' c', am_ca sa sv (d + 3) 258 [.ref b, .int (nI n)] m = some (.inl none, m') ∧ SBc m' b c' l ∧ n ≤ c' ∧ Eb b 1 2002 m m' := by
  have h' := h
  obtain ⟨h1, h3, h4, h5, h6, h7, h8, h9, h10, h11, h12, h13⟩ := h
  rw [c258, b258_0]
  by_cases hc : n ≤ c
  · refine ⟨m, c, ?_, h', hc, (Eb.refl _ _).mono (by omega) (by omega)⟩
    simp (disch := omega) only [h1, h5, h3, sh0, nI_dle, eq_true hc, h4, gq_true, gb_true, and_true, not_false_eq_true, show (2 ≤ 3 ∧ ¬ 3 = 8) from by decide]
  · have h14 := x259 (sa := sa) (sv := sv) (d := d) h' n (by omega) h2
    generalize hx : (c + if n - c < c + 2 then c + 2 else n - c) = x at h14
    have h15 : c < x ∧ n ≤ x ∧ x ≤ 2002 := by
      rw [← hx]
      have : c ≤ 999 := by omega
      split <;> omega
    have h16 := x250 (sa := sa) (sv := sv) (d := d + 1) (gr_ m b 0) x c h5 h15.1 (by omega) h13 h12
    generalize hM : ri_ (al_ m (3, x) x) (gt_ m) (va_cpy (gi_ m (gr_ m b 0)) (fun _ => 0) 0 0 c) = M at h16
    have kM : gk_ M = gk_ (al_ m (3, x) x) := by rw [← hM]; rfl
    have kb : gk_ M b = (1, 13) := by rw [kM, gk_alo _ _ _ h11, h1]
    refine ⟨sr_ M b 0 (gt_ m), x, ?_, ?_, h15.2.1, ?_⟩
    · simp (disch := omega) only [h1, h5, h3, sh0, sl0, nI_dle, eq_false hc, h4, gq_true, gb_false, and_true, not_false_eq_true, show (2 ≤ 3 ∧ ¬ 3 = 8) from by decide, h14, ci_v, h16, cr_v, kb, eq_false (show ¬ gt_ m = 0 by omega)]
    · have gM : gt_ M = gt_ m + 1 := by rw [← hM]; rfl
      have iM : ∀ a k, gi_ M a k = if a = gt_ m then va_cpy (gi_ m (gr_ m b 0)) (fun _ => 0) 0 0 c k else gi_ (al_ m (3, x) x) a k := fun a k => by
        rw [← hM, gi_ri]
      have nb : ¬ b = gt_ m := by omega
      have rb : gr_ (sr_ M b 0 (gt_ m)) b 0 = gt_ m := by rw [gr_sr, if_pos ⟨rfl, rfl⟩]
      refine ⟨kb, ?_, by rw [rb]; omega, ?_, by omega, by omega, ?_, ?_, h10, by show b < gt_ M; omega, by rw [rb]; show _ < gt_ M; omega, ?_⟩
      · rw [gi_sr, iM, if_neg nb, gi_alo _ _ _ h11, h3]
      · rw [rb, gk_sr, kM, gk_al]
      · rw [gi_sr, iM, if_neg nb, gi_alo _ _ _ h11, h8]
      · intro j hj
        rw [rb, gi_sr, iM, if_pos rfl, cpy1, if_pos (by omega), Nat.sub_zero, Nat.zero_add, h9 j hj]
      · show ge_ M = true
        rw [← hM]
        exact h13
    · have e : Ex (SBp m b) 1 x m M := by
        rw [← hM]
        exact (Ex.al m _ _).ri (.inl (Nat.le_refl _))
      exact ⟨(e.sr (.inr (.inl rfl))).mono (fun _ _ q => q) (Nat.le_refl _) h15.2.2, .inr (by rw [gr_sr, if_pos ⟨rfl, rfl⟩]; exact Nat.le_refl _)⟩
theorem gk_ri' (m : am_M) (a : Nat) (g : Nat → Int32) : gk_ (ri_ m a g) = gk_ m := rfl
theorem x264 (h : SBc m b c l) : am_ca sa sv (d + 1) 264 [.ref b] m = some (.inl (some (.int (nI 1))), m) := by
  rw [c264, b264_0, gb_neg (by decide), gq_pos h.1, gb_pos (by rw [h.2.1]; decide), gq_pos (by decide)]
theorem x257 (h : SBc m b c l) : am_ca sa sv (d + 1) 257 [.ref b] m = some (.inl (some (.int (nI l.length))), m) := by
  rw [c257, b257_0, gq_pos h.1, h.2.2.2.2.2.2.1]
theorem x225 (h : SBc m b c l) : am_ca sa sv (d + 2) 225 [.ref b] m = some (.inl (some (.int (nI l.length))), m) := by
  rw [c225, b225_0, gq_pos h.1, x257 h, ci_v]
theorem x263 (h : SBc m b c l) : am_ca sa sv (d + 1) 263 [.ref b] m = some (.inl (some (.ref (gr_ m b 0))), m) := by
  rw [c263, b263_0, gq_pos ⟨h.1, h.2.2.1⟩]
theorem SBc.fits (h : SBc m b c l) : c ≤ 2002 ∧ l.length ≤ c := ⟨h.2.2.2.2.2.1, h.2.2.2.2.1⟩
/-- a string's signs into an array -/
theorem x228 {t a c j : Nat} {w : List Int32} (hS : SV m t w) (ha : gk_ m a = (3, c)) (hj : j + w.length ≤ c) (hc : c < 2 ^ 30) : am_ca sa sv (d + 2) 228 [.ref t, .ref a, .int (nI j), .int (nI 0)] m = some (.inl none, ri_ m a (va_cpy (gi_ m (gr_ m t 0)) (gi_ m a) 0 j w.length)) := by
  have hS' := hS
  obtain ⟨h1, h2, h3, h4, h5, h6, h7⟩ := hS'
  rw [c228, b228_0, gq_pos hS.b, n364 hS, ci_v, gb_pos rfl, gq_pos h1, gq_pos h1, gq_pos (by omega), gb_neg (by rw [ha]; show ¬ 3 = 2; decide), gb_pos (by rw [ha]; exact .inl rfl), h4, sl0, nI_clamp (show 0 < 2 ^ 31 by omega), nI_clamp (show j < 2 ^ 31 by omega), nI_clamp (show w.length < 2 ^ 31 by omega), gq_pos (by rw [ha]; exact ⟨by decide, nI_pos (by omega), nI_pos (by omega), by omega, hj⟩), gb_pos (by rw [ha]), gq_pos h3]
theorem x265 {t : Nat} {w : List Int32} (h : SBc m b c l) (hS : SV m t w) : am_ca sa sv (d + 2) 265 [.ref b, .ref t] m = some (.inl none, m) := by
  rw [c265, b265_0, gb_neg (by decide), gq_pos h.1, gq_pos hS.b, n364 hS, ci_v, gb_pos h.2.1]
theorem x266 {t : Nat} {w : List Int32} (h : SBc m b c l) (hS : SV m t w) (hc : l.length + w.length ≤ c) : am_ca sa sv (d + 3) 266 [.ref b, .int (nI l.length), .ref t] m = some (.inl none, ri_ m (gr_ m b 0) (va_cpy (gi_ m (gr_ m t 0)) (gi_ m (gr_ m b 0)) 0 l.length w.length)) := by
  have h9 := h.fits
  rw [c266, b266_0, gq_pos h.1, x265 h hS, c0_v, gq_pos ⟨h.1, h.2.2.1⟩, gq_pos h.1, gq_pos hS.b, h.2.1, x228 hS h.2.2.2.1 hc (by omega), c0_v]
theorem app_at {l w : List Int32} {j : Nat} : (l ++ w).getD j 0 = if j < l.length then l.getD j 0 else w.getD (j - l.length) 0 := by
  split
  · next h => rw [List.getD_eq_getElem?_getD, List.getElem?_append_left h, ← List.getD_eq_getElem?_getD]
  · next h => rw [List.getD_eq_getElem?_getD, List.getElem?_append_right (by omega), ← List.getD_eq_getElem?_getD]
theorem Asc.app {l w : List Int32} (h : Asc l) (h' : Asc w) : Asc (l ++ w) := fun c hc => (List.mem_append.mp hc).elim (h c) (h' c)
/-- behind the signs that a builder's array got -/
theorem SBc.app {w : List Int32} (h : SBc m b c l) (hw : Asc w) (hc : l.length + w.length ≤ c) {g : Nat → Int32} (g1 : ∀ j, j < l.length → g j = gi_ m (gr_ m b 0) j) (g2 : ∀ j, l.length ≤ j → j < l.length + w.length → g j = w.getD (j - l.length) 0) : SBc (si_ (ri_ m (gr_ m b 0) g) b 3 (nI (l.length + w.length))) b c (l ++ w) := by
  obtain ⟨h1, h3, h4, h5, h6, h7, h8, h9, h10, h11, h12, h13⟩ := h
  have nb : ¬ gr_ m b 0 = b := fun z => by rw [z, h1] at h5; exact absurd (congrArg (fun q => q.1) h5) (by show ¬ 1 = 3; decide)
  refine ⟨h1, ?_, h4, h5, by rw [List.length_append]; exact hc, h7, ?_, fun j hj => ?_, h10.app hw, h11, h12, h13⟩
  · rw [gi_si, if_neg (fun z => absurd z.2 (by decide)), gi_ri, if_neg (fun z => nb z.symm), h3]
  · rw [gi_si1, List.length_append]
  · rw [List.length_append] at hj
    show gi_ (si_ (ri_ m (gr_ m b 0) g) b 3 _) (gr_ m b 0) j = _
    rw [gi_si, if_neg (fun z => nb z.1), gi_ri, if_pos rfl, app_at]
    by_cases q : j < l.length
    · rw [if_pos q, g1 j q, h9 j q]
    · rw [if_neg q, g2 j (by omega) hj]
theorem x260 {t : Nat} {w : List Int32} (h : SBv m b l) (hS : SV m t w) (ht : t < gt_ m) (hv : gr_ m t 0 < gt_ m) (n1 : ¬ gr_ m t 0 = gr_ m b 0) (n2 : ¬ t = b) (n3 : ¬ gr_ m t 0 = b) (n4 : ¬ t = gr_ m b 0) (h2 : l.length + w.length ≤ 1000) : ∃ m', am_ca sa sv (d + 4) 260 [.ref b, .ref t] m = some (.inl (some (.ref b)), m') ∧ SBv m' b (l ++ w) ∧ Eb b 1 2002 m m' := by
  obtain ⟨c, h⟩ := h
  obtain ⟨m1, c1, e1, b1, c2, x1⟩ := x258 (sa := sa) (sv := sv) (d := d) h (l.length + w.length) h2
  have S1 : SV m1 t w := by
    have p1 : ¬ SBp m b t := fun z => by unfold SBp at z; omega
    have p2 : ¬ SBp m b (gr_ m t 0) := fun z => by unfold SBp at z; omega
    exact hS.cg (x1.1.k ht) (x1.1.i ht p1) (x1.1.r ht p1) (x1.1.k hv) (x1.1.i hv p2)
  have k1 := b1.1
  have l3 := b1.2.2.2.2.2.2.1
  have e2 := x266 (sa := sa) (sv := sv) (d := d) b1 S1 c2
  have hb := b1.app hS.2.2.2.2.2.2 c2 (g := va_cpy (gi_ m1 (gr_ m1 t 0)) (gi_ m1 (gr_ m1 b 0)) 0 l.length w.length) (fun j hj => by rw [cpy1, if_neg (by omega)]) (fun j h1 hj => by rw [cpy1, if_pos ⟨h1, hj⟩, Nat.zero_add]; exact S1.2.2.2.2.1 _ (by omega))
  have nb : ¬ gr_ m1 b 0 = b := fun z => by
    have h5 := b1.2.2.2.1
    rw [z, k1] at h5
    exact absurd (congrArg (fun q => q.1) h5) (by show ¬ 1 = 3; decide)
  refine ⟨_, ?_, ⟨c1, hb⟩, ⟨?_, x1.2⟩⟩
  · rw [c260, b260_0, gq_pos hS.b, n362 hS, ci_v, gq_pos h.1, gq_pos h.1, h.2.2.2.2.2.2.1, nI_add, e1, c0_v, gq_pos k1, gq_pos k1, l3, e2, c0_v, gk_ri', gq_pos k1, gq_pos k1, gi_ri, if_neg (fun z => nb z.symm), l3, nI_add]
  · refine (x1.1.ri ?_).si (.inr (.inl rfl))
    rcases x1.2 with q | q
    · exact .inr (.inr q)
    · exact .inl q
theorem x221 {t : Nat} {w : List Int32} (h : SBv m b l) (hS : SV m t w) (ht : t < gt_ m) (hv : gr_ m t 0 < gt_ m) (n1 : ¬ gr_ m t 0 = gr_ m b 0) (n2 : ¬ t = b) (n3 : ¬ gr_ m t 0 = b) (n4 : ¬ t = gr_ m b 0) (h2 : l.length + w.length ≤ 1000) : ∃ m', am_ca sa sv (d + 5) 221 [.ref b, .ref t] m = some (.inl (some (.ref b)), m') ∧ SBv m' b (l ++ w) ∧ Eb b 1 2002 m m' := by
  obtain ⟨m1, e1, b1, x1⟩ := x260 (sa := sa) (sv := sv) (d := d) h hS ht hv n1 n2 n3 n4 h2
  exact ⟨m1, by rw [c221, b221_0, gq_pos h.choose_spec.1, e1, cr_v], b1, x1⟩
end B8
