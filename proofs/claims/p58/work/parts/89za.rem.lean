/-! what was is kept (class), whole -/
def TX.rem (X : TX) : TX := X.wH (min X.u 4 + 1) (fun i => if i < min X.u 4 then X.ps (i + (X.u - min X.u 4)) else X.s) (fun i => if i < min X.u 4 then X.pq (i + (X.u - min X.u 4)) else X.q)
def P211 (N : Nat) (f : Nat → Nat) (a k : Nat) : Prop := a = N + 26 ∨ (a = N ∧ k = 9) ∨ ∃ i, i < 5 ∧ OA (oa N (f i)) a
section I89
variable {sa sv d N n B w : Nat} {X : TX} {m m0 m' : am_M} {f g : Nat → Nat}
theorem P211.x {a k : Nat} (hf : SL f) (h : P211 N f a k) : XF N a k ∧ (a = N ∧ k = 9 ∨ N + 26 ≤ a) ∧ a < N + 243 := by
  rcases h with h | h | ⟨i, hi, h⟩
  · exact ⟨XF.a26 (by omega), by omega, by omega⟩
  · exact ⟨XF.a0 h.1 (by omega), by omega, by omega⟩
  · have h1 := oa_lo N (f i)
    have h2 := oa_hi N (hf.lt (i := i) (by omega))
    unfold OA at h
    exact ⟨XF.of (by omega) (by omega), by omega, by omega⟩
theorem x211c (h : TC m N X) (hF : TF m N f X) (hG : XG B X) (hg : SL g) (g6 : g 6 = f 6) (g7 : g 7 = f 7) (hj : ∀ i, i < 5 → ∃ j, j < 5 ∧ g i = f j) (hf0 : Fr (fun a k => a = N + 26 ∨ (a = N ∧ k = 9)) m m0) (hH : HI m0 N g) (hu : gi_ m0 N 9 = nI (min X.u 4)) (hV : ∀ i, i < min X.u 4 → OV m (oa N (g i)) (X.ps (i + (X.u - min X.u 4))) (X.pq (i + (X.u - min X.u 4)))) (o1 o2 : Option Value) (hr : r211 sa sv (d + 3) 0 [some (.ref N), none, none] [] m = r211 sa sv (d + 3) 54 [some (.ref N), o1, o2] [] m0) : ∃ m', am_ca sa sv (d + 4) 211 [.ref N] m = some (.inl none, m') ∧ Fr (P211 N f) m m' ∧ TC m' N X.rem ∧ TF m' N g X.rem := by
  obtain ⟨f1, f2, f3, f4, f5, f6, f7⟩ := hF
  have no : ∀ j a k, oa N j ≤ a → a < oa N j + 27 → ¬ (a = N + 26 ∨ (a = N ∧ k = 9)) := fun j a k z1 z2 z => by have := oa_lo N j; omega
  have hX0 : XS m0 N := h.x.frg hf0 (fun a k z => by
    rcases z with z | z
    · exact XF.a26 (by omega)
    · exact XF.a0 z.1 (by omega))
  have hO0 : ∀ j, j < 8 → OS m0 (oa N j) := fun j hj => (h.o j hj).fr' hf0 (no j)
  have h13 : gr_ m0 N 13 = oa N (g 7) := by rw [g7]; exact (hf0.2.2.2.1 _ _ (by omega)).trans f2
  have hV0 : OV m0 (oa N (g 7)) X.s X.q := by rw [g7]; exact f5.fr hf0 (no _)
  have hw : min X.u 4 < 5 := by omega
  obtain ⟨m1, g1, p1⟩ := x211_54 (sa := sa) (sv := sv) (d := d) hX0 hO0 hg hH h13 hw hu o1 o2
  have hd : ∀ j, j < 8 → ¬ j = min X.u 4 → ∀ a k : Nat, oa N (g j) ≤ a → a < oa N (g j) + 27 → ¬ OA (oa N (g (min X.u 4))) a := fun j hj e a k z1 z2 z => by
    have := oa_ne N (hg.ne hj (by omega) e)
    unfold OA at z
    omega
  have hVn : OV m1 (oa N (g (min X.u 4))) X.s X.q := p1.ov (fun j z => z) hV0 hG.1.C hG.1.K (fun _ _ => rfl) (fun _ _ => rfl)
  have fs : Fr (fun a k => a = N ∧ k = 9) m1 (si_ m1 N 9 (nI (min X.u 4 + 1))) := (Fr.refl _ _).si ⟨rfl, rfl⟩
  have ns : ∀ j a k, oa N j ≤ a → a < oa N j + 27 → ¬ (a = N ∧ k = 9) := fun j a k z1 z2 z => by have := oa_lo N j; omega
  have hfr : Fr (P211 N f) m (si_ m1 N 9 (nI (min X.u 4 + 1))) := by
    refine Fr.trans (hf0.mono fun a k z => ?_) (Fr.trans (p1.1.mono fun a k z => ?_) (fs.mono fun a k z => Or.inr (Or.inl z)))
    · rcases z with z | z
      · exact Or.inl z
      · exact Or.inr (Or.inl z)
    · obtain ⟨j, j1, j2⟩ := hj (min X.u 4) hw
      exact Or.inr (Or.inr ⟨j, j1, by rw [← j2]; exact z⟩)
  have hO1 : ∀ j, j < 8 → OS m1 (oa N j) := fun j hj => by
    by_cases e : j = g (min X.u 4)
    · rw [e]; exact p1.2.1
    · exact (hO0 j hj).fr' p1.1 (fun a k z1 z2 z => by
        have := oa_ne N e
        unfold OA at z
        omega)
  have hlt : ∀ j, j < 8 → oa N (g j) + 27 ≤ N + 243 := fun j hj => oa_hi N (hg.lt hj)
  have nr : ∀ a k : Nat, a < N + 27 → ¬ OA (oa N (g (min X.u 4))) a := fun a k z z2 => by
    have := oa_lo N (g (min X.u 4))
    unfold OA at z2
    omega
  have hr0 : ∀ a k, a < N + 27 → ¬ a = N + 26 → ¬ (a = N ∧ k = 9) → gr_ (si_ m1 N 9 (nI (min X.u 4 + 1))) a k = gr_ m a k := fun a k z z2 z3 => (p1.1.2.2.2.1 a k (nr a k z)).trans (hf0.2.2.2.1 a k (by omega))
  have hTF : TF (si_ m1 N 9 (nI (min X.u 4 + 1))) N g X.rem := by
    refine ⟨hg, ?_, ?_, fun i hi => ?_, ?_, fun i hi => ?_, fun z => ?_⟩
    · rw [g7, ← f2]; exact hr0 N 13 (by omega) (by omega) (by omega)
    · rw [g6, ← f3]; exact hr0 N 12 (by omega) (by omega) (by omega)
    · exact (p1.1.2.2.2.1 _ _ (nr (N + 26) i (by omega))).trans (hH i hi)
    · exact (hV0.fr p1.1 (hd 7 (by omega) (by omega))).fr fs (ns _)
    · have hi' : i < min X.u 4 + 1 := hi
      show OV _ _ (if i < min X.u 4 then X.ps (i + (X.u - min X.u 4)) else X.s) (if i < min X.u 4 then X.pq (i + (X.u - min X.u 4)) else X.q)
      by_cases e : i < min X.u 4
      · rw [if_pos e, if_pos e]
        exact (((hV i e).fr hf0 (no _)).fr p1.1 (hd i (by omega) (by omega))).fr fs (ns _)
      · rw [if_neg e, if_neg e, show i = min X.u 4 by omega]
        exact hVn.fr fs (ns _)
    · have := ((f7 z).fr hf0 (no 5)).fr p1.1 (fun a k z1 z2 z3 => by
        have := oa_ne N (hg.ne (i := 5) (j := min X.u 4) (by omega) (by omega) (by omega))
        rw [hg.2.2] at this
        unfold OA at z3
        omega)
      exact this.fr fs (ns 5)
  refine ⟨_, ?_, hfr, ?_, hTF⟩
  · rw [c211, hr]
    exact g1
  · refine TC.set (s := X.s) (q := X.q) h hfr (fun a k z => ?_) (fun j hj => (hO1 j hj).fr' fs (ns j)) (by rw [gi_si, if_pos ⟨rfl, rfl⟩]) (by omega) ⟨g, hTF⟩
    have := P211.x f1 z
    exact ⟨this.1, by omega, by omega, by omega, by omega, by omega, by omega⟩
theorem x211 (h : TC m N X) (hF : TF m N f X) (hG : XG B X) : ∃ m' g, am_ca sa sv (d + 4) 211 [.ref N] m = some (.inl none, m') ∧ Fr (P211 N f) m m' ∧ TC m' N X.rem ∧ TF m' N g X.rem ∧ g 6 = f 6 ∧ g 7 = f 7 := by
  have u5 := h.u5
  have hF' := hF
  obtain ⟨f1, f2, f3, f4, f5, f6, f7⟩ := hF
  by_cases e : X.u = 5
  · have hu : gi_ m N 9 = nI 5 := by rw [h.u, e]
    have fM : Fr (fun a k => a = N + 26 ∨ (a = N ∧ k = 9)) m (rotN m N f) := by
      unfold rotN rotM
      refine Fr.si (Fr.sr (Fr.sr (Fr.sr (Fr.sr (Fr.sr (Fr.refl _ _) ?_) ?_) ?_) ?_) ?_) ?_
      any_goals exact Or.inl rfl
      exact Or.inr ⟨rfl, rfl⟩
    have hH : HI (rotN m N f) N (rotF f) := fun i hi => by
      show gr_ (sr_ (rotM m N f) (N + 26) 4 (oa N (f 0))) (N + 26) i = _
      unfold rotM rotF
      have : i = 0 ∨ i = 1 ∨ i = 2 ∨ i = 3 ∨ i = 4 := by omega
      rcases this with z | z | z | z | z <;> subst z
      · rw [gr_sr, if_neg (by omega), gr_sr, if_neg (by omega), gr_sr, if_neg (by omega), gr_sr, if_neg (by omega), gr_sr, if_pos ⟨rfl, rfl⟩, if_pos (by omega)]
      · rw [gr_sr, if_neg (by omega), gr_sr, if_neg (by omega), gr_sr, if_neg (by omega), gr_sr, if_pos ⟨rfl, rfl⟩, if_pos (by omega)]
      · rw [gr_sr, if_neg (by omega), gr_sr, if_neg (by omega), gr_sr, if_pos ⟨rfl, rfl⟩, if_pos (by omega)]
      · rw [gr_sr, if_neg (by omega), gr_sr, if_pos ⟨rfl, rfl⟩, if_pos (by omega)]
      · rw [gr_sr, if_pos ⟨rfl, rfl⟩, if_neg (by omega), if_pos rfl]
    obtain ⟨m', q1, q2, q3, q4⟩ := x211c (sa := sa) (sv := sv) (d := d) (g := rotF f) h hF' hG f1.rotS rfl rfl (fun i hi => by
      unfold rotF
      by_cases z : i < 4
      · rw [if_pos z]; exact ⟨i + 1, by omega, rfl⟩
      · rw [if_neg z, if_pos (by omega)]; exact ⟨0, by omega, rfl⟩) fM hH (by
        rw [show min X.u 4 = 4 by omega]
        unfold rotN
        rw [gi_si, if_pos ⟨rfl, rfl⟩]) (fun i hi => by
        have : rotF f i = f (i + (X.u - min X.u 4)) := by
          unfold rotF
          rw [if_pos (by omega), show i + (X.u - min X.u 4) = i + 1 by omega]
        rw [this]
        exact f6 _ (by omega)) _ _ (x211_0 h.x h.o f1 f4 hu)
    exact ⟨m', rotF f, q1, q2, q3, q4, rfl, rfl⟩
  · obtain ⟨m', q1, q2, q3, q4⟩ := x211c (sa := sa) (sv := sv) (d := d) (g := f) (m0 := m) h hF' hG f1 rfl rfl (fun i hi => ⟨i, hi, rfl⟩) (Fr.refl _ _) f4 (by rw [h.u, show min X.u 4 = X.u by omega]) (fun i hi => by
      rw [show i + (X.u - min X.u 4) = i by omega]
      exact f6 i (by omega)) none none (by
        rw [b211_0]
        simp (disch := omega) only [gq_true, gb_true, gb_false, true_and, and_true, eq_self, not_false_eq_true, not_true_eq_false, true_or, or_true, false_or, or_false, false_and, and_false, c0_v, ci_v, cl_v, cf_v, pk_mul, nI_add, nI_clamp, nI_lt0, nI_0le, nI_eq0, nI_lt0r, nI_ltE, nI_leE, nI_eqE, nI_m1, in_t, ba0, ba1, Nat.one_ne_zero, Nat.reduceEqDiff, Nat.reduceLeDiff, Nat.add_eq_zero_iff, xk0 h.x, h.u, eq_true (show X.u < 5 by omega)])
    exact ⟨m', f, q1, q2, q3, q4, rfl, rfl⟩
end I89
