/-! bytes are fed and cut: the reference -/
section R89
variable {sa sv d N n B : Nat} {X : TX} {m m' : am_M} {b : Nat → Nat}
def PFr (N a k : Nat) : Prop := a = N + 244 ∨ (a = N + 243 ∧ (k = 2 ∨ k = 0))
theorem PFr.x {a k : Nat} (h : PFr N a k) : XF N a k := by
  rcases h with h | h
  · exact XF.hi (by omega)
  · exact XF.a243 h.1 (by omega)
def PFq (N a k : Nat) : Prop := a = N + 244 ∨ (a = N + 243 ∧ k = 2)
theorem PFq.r {a k : Nat} (h : PFq N a k) : PFr N a k := by unfold PFq at h; unfold PFr; omega
def BYr (m : am_M) (N : Nat) (b : Nat → Nat) (n : Nat) : Prop := (∀ k, k < n → gi_ m (N + 244) k = nI (b k)) ∧ gi_ m (N + 243) 2 = nI n
theorem y228_3 (hX : XS m N) (h : BYr m N b n) (hn : n < 900) (x l : Int32) (hl : ¬ l < 0) : ∃ m', r228 sa sv d 3 [some (.ref (N + 243)), some (.int x), some (.int l)] [] m = r228 sa sv d 3 [some (.ref (N + 243)), some (.int x), some (.int (l + -8))] [] m' ∧ Fr (PFq N) m m' ∧ XS m' N ∧ BYr m' N (putb b n (byt x l)) (n + 1) := by
  have f : Fr (PFq N) m (si_ (si_ m (N + 244) n (nI (byt x l))) (N + 243) 2 (nI (n + 1))) := ((Fr.refl _ _).si (Or.inl rfl)).si (Or.inr ⟨rfl, rfl⟩)
  have e1 : gi_ (si_ m (N + 244) n (nI (byt x l))) (N + 243) 2 = nI n := (if_neg (by omega)).trans h.2
  have e2 : (x >>> (l &&& 31)) &&& nI 255 = nI (byt x l) := and255 _
  refine ⟨_, ?_, f, hX.frg f (fun a k z => z.r.x), fun k hk => ?_, if_pos ⟨rfl, rfl⟩⟩
  · rw [b228_3, gb_neg hl]
    simp (disch := omega) only [gq_true, gb_true, gb_false, true_and, and_true, eq_self, not_false_eq_true, not_true_eq_false, true_or, or_true, false_or, or_false, false_and, and_false, c0_v, ci_v, cl_v, cf_v, pk_mul, nI_add, nI_clamp, nI_lt0, nI_0le, nI_eq0, nI_lt0r, nI_ltE, nI_leE, nI_eqE, nI_m1, in_t, ba0, ba1, Nat.one_ne_zero, Nat.reduceEqDiff, Nat.reduceLeDiff, Nat.add_eq_zero_iff, xk243 hX, xr243_1 hX, xk244 hX, h.2, eq_false (show ¬ N + 244 = 0 by omega), e2, e1]
  · have e3 : gi_ (si_ (si_ m (N + 244) n (nI (byt x l))) (N + 243) 2 (nI (n + 1))) (N + 244) k = if k = n then nI (byt x l) else gi_ m (N + 244) k := by
      rw [gi_si, if_neg (by omega), gi_si]
      by_cases e : k = n
      · rw [if_pos ⟨rfl, e⟩, if_pos e]
      · rw [if_neg (fun z => e z.2), if_neg e]
    rw [e3]
    unfold putb
    by_cases e : k = n
    · rw [if_pos e, if_pos e]
    · rw [if_neg e, if_neg e]
      exact h.1 k (by omega)
theorem y228 (hX : XS m N) (h : BYr m N b n) (hn : n + 4 ≤ 900) (x : Int32) : ∃ m', am_ca sa sv (d + 1) 228 [.ref (N + 243), .int x] m = some (.inl none, m') ∧ Fr (PFq N) m m' ∧ XS m' N ∧ BYr m' N (fourB b n x) (n + 4) := by
  obtain ⟨m1, a1, a2, a3, a4⟩ := y228_3 (sa := sa) (sv := sv) (d := d) hX h (by omega) x (nI 24) (by decide)
  obtain ⟨m2, b1, b2, b3, b4⟩ := y228_3 (sa := sa) (sv := sv) (d := d) a3 a4 (by omega) x (nI 16) (by decide)
  obtain ⟨m3, c1, c2, c3, c4⟩ := y228_3 (sa := sa) (sv := sv) (d := d) b3 b4 (by omega) x (nI 8) (by decide)
  obtain ⟨m4, d1, d2, d3, d4⟩ := y228_3 (sa := sa) (sv := sv) (d := d) c3 c4 (by omega) x (nI 0) (by decide)
  refine ⟨m4, ?_, ((a2.trans b2).trans c2).trans d2, d3, d4⟩
  rw [c228, b228_0, a1, show nI 24 + -8 = nI 16 by decide, b1, show nI 16 + -8 = nI 8 by decide, c1, show nI 8 + -8 = nI 0 by decide, d1, b228_3, gb_pos (by decide)]
/-- the buffer of a reference -/
theorem TR.buf {n' : Nat} {b' : Nat → Nat} (h : TR m N X) (hf : Fr (PFr N) m m') (hb : ∀ k, k < n' → gi_ m' (N + 244) k = nI (b' k)) (hn : gi_ m' (N + 243) 2 = nI n') : TR m' N (X.wB b' n') := by
  have hi : ∀ a k, ¬ PFr N a k → gi_ m' a k = gi_ m a k := fun a k z => hf.2.1 a k z
  have hl : ∀ a k, ¬ PFr N a k → gl_ m' a k = gl_ m a k := fun a k z => hf.2.2.1 a k z
  obtain ⟨c, e1, e2, e3⟩ := h.h
  exact ⟨h.x.frg hf (fun a k z => z.x), fun k z => (hi _ _ (by unfold PFr; omega)).trans (h.s k z), fun k z => (hl _ _ (by unfold PFr; omega)).trans (h.q k z), hn, hb, (hi _ _ (by unfold PFr; omega)).trans h.u, fun i k z z2 => (hi _ _ (by unfold PFr; omega)).trans (h.ps i k z z2), fun i k z z2 => (hl _ _ (by unfold PFr; omega)).trans (h.pq i k z z2), (hi _ _ (by unfold PFr; omega)).trans h.v, fun z k z2 => (hi _ _ (by unfold PFr; omega)).trans (h.ss z k z2), fun z k z2 => (hl _ _ (by unfold PFr; omega)).trans (h.sq z k z2), (hi _ _ (by unfold PFr; omega)).trans h.e1, (hi _ _ (by unfold PFr; omega)).trans h.e2, (hi _ _ (by unfold PFr; omega)).trans h.e3, (hi _ _ (by unfold PFr; omega)).trans h.r, ⟨c, e1, (hi _ _ (by unfold PFr; omega)).trans e2, e3⟩, fun k z => (hi _ _ (by unfold PFr; omega)).trans (h.rb k z)⟩
theorem PFr.k {a k : Nat} (h : PFr N a k) : KR N a k := ⟨by unfold PFr at h; omega, by unfold PFr at h; omega, h.x⟩
theorem y227 (h : TR m N X) (h9 : X.n ≤ 900) (a b c e f : Int32) : RI m N (fedX X a b c e f) (if X.n + 20 ≤ 900 then 0 else 1) (nI (X.n + 20)) (am_ca sa sv (d + 3) 227 [.ref (N + 243), .int a, .int b, .int c, .int e, .int f] m) := by
  have hX := h.x
  have hR : RS m N (gi_ m (N + 245)) (gl_ m (N + 249)) := ⟨h.x, rfl, rfl⟩
  unfold fedX
  by_cases z : X.n + 20 ≤ 900
  · rw [if_pos z, if_pos z]
    have q := y225_1 (sa := sa) (sv := sv) (d := d) hR
    have f0 : Fr (PFr N) m (si_ m (N + 243) 0 (nI 0)) := (Fr.refl _ _).si (Or.inr ⟨rfl, Or.inr rfl⟩)
    have hX0 := hX.frg f0 (fun a k z => z.x)
    have b0 : ∀ k, gi_ (si_ m (N + 243) 0 (nI 0)) (N + 244) k = gi_ m (N + 244) k := fun k => if_neg (by omega)
    obtain ⟨m1, a1, a2, a3, a4⟩ := y228 (sa := sa) (sv := sv) (d := d + 1) (b := X.b) (n := X.n) hX0 ⟨fun k hk => (b0 k).trans (h.b k hk), (if_neg (by omega)).trans h.n⟩ (by omega) a
    obtain ⟨m2, b1, b2, b3, b4⟩ := y228 (sa := sa) (sv := sv) (d := d + 1) a3 a4 (by omega) b
    obtain ⟨m3, c1, c2, c3, c4⟩ := y228 (sa := sa) (sv := sv) (d := d + 1) b3 b4 (by omega) c
    obtain ⟨m4, d1, d2, d3, d4⟩ := y228 (sa := sa) (sv := sv) (d := d + 1) c3 c4 (by omega) e
    obtain ⟨m5, e1, e2, e3, e4⟩ := y228 (sa := sa) (sv := sv) (d := d + 1) d3 d4 (by omega) f
    have h5 : Fr (PFq N) (si_ m (N + 243) 0 (nI 0)) m5 := (((a2.trans b2).trans c2).trans d2).trans e2
    have hf : Fr (PFr N) m m5 := f0.trans (h5.mono fun a k z => z.r)
    have z0 : gi_ m5 (N + 243) 0 = nI 0 := (h5.2.1 _ _ (by unfold PFq; omega)).trans (if_pos ⟨rfl, rfl⟩)
    have e5 : gi_ m5 (N + 243) 2 = nI (X.n + 20) := e4.2
    refine ⟨m5, _, hf.mono fun a k z => z.k, TR.buf h hf e4.1 e4.2, ?_, z0, fun _ => rfl⟩
    rw [c227, b227_0]
    simp (disch := omega) only [gq_true, gb_true, gb_false, true_and, and_true, eq_self, not_false_eq_true, not_true_eq_false, true_or, or_true, false_or, or_false, false_and, and_false, c0_v, ci_v, cl_v, cf_v, pk_mul, nI_add, nI_clamp, nI_lt0, nI_0le, nI_eq0, nI_lt0r, nI_ltE, nI_leE, nI_eqE, nI_m1, in_t, ba0, ba1, Nat.one_ne_zero, Nat.reduceEqDiff, Nat.reduceLeDiff, Nat.add_eq_zero_iff, xk243 hX, h.n, eq_false (show ¬ 900 < X.n + 20 by omega)]
    rw [b227_19]
    simp (disch := omega) only [gq_true, gb_true, gb_false, true_and, and_true, eq_self, not_false_eq_true, not_true_eq_false, true_or, or_true, false_or, or_false, false_and, and_false, c0_v, ci_v, cl_v, cf_v, pk_mul, nI_add, nI_clamp, nI_lt0, nI_0le, nI_eq0, nI_lt0r, nI_ltE, nI_leE, nI_eqE, nI_m1, in_t, ba0, ba1, Nat.one_ne_zero, Nat.reduceEqDiff, Nat.reduceLeDiff, Nat.add_eq_zero_iff, xk243 hX, q, gk_siF, a1, xk243 a3, b1, xk243 b3, c1, xk243 c3, d1, xk243 d3, e1, xk243 e3, e5]
  · rw [if_neg z, if_neg z]
    have q := y225_0 (sa := sa) (sv := sv) (d := d) hR
    refine RI.no h 1 (by omega) _ ?_
    rw [c227, b227_0]
    simp (disch := omega) only [gq_true, gb_true, gb_false, true_and, and_true, eq_self, not_false_eq_true, not_true_eq_false, true_or, or_true, false_or, or_false, false_and, and_false, c0_v, ci_v, cl_v, cf_v, pk_mul, nI_add, nI_clamp, nI_lt0, nI_0le, nI_eq0, nI_lt0r, nI_ltE, nI_leE, nI_eqE, nI_m1, in_t, ba0, ba1, Nat.one_ne_zero, Nat.reduceEqDiff, Nat.reduceLeDiff, Nat.add_eq_zero_iff, xk243 hX, h.n, eq_true (show 900 < X.n + 20 by omega)]
    rw [b227_19]
    simp (disch := omega) only [gq_true, gb_true, gb_false, true_and, and_true, eq_self, not_false_eq_true, not_true_eq_false, true_or, or_true, false_or, or_false, false_and, and_false, c0_v, ci_v, cl_v, cf_v, pk_mul, nI_add, nI_clamp, nI_lt0, nI_0le, nI_eq0, nI_lt0r, nI_ltE, nI_leE, nI_eqE, nI_m1, in_t, ba0, ba1, Nat.one_ne_zero, Nat.reduceEqDiff, Nat.reduceLeDiff, Nat.add_eq_zero_iff, xk243 hX, q]
theorem y229 (h : TR m N X) (h9 : X.n ≤ 900) (l : Int32) : RI m N (cutX X l) (if 0 ≤ l.toInt ∧ l.toInt ≤ X.n then 0 else 1) l (am_ca sa sv (d + 3) 229 [.ref (N + 243), .int l] m) := by
  have hX := h.x
  have hR : RS m N (gi_ m (N + 245)) (gl_ m (N + 249)) := ⟨h.x, rfl, rfl⟩
  have q2 := y222 (sa := sa) (sv := sv) (d := d + 1) (m := m) l.toInt64 0 (nI X.n).toInt64
  have hx : decide ((0 : Int64) ≤ l.toInt64 ∧ l.toInt64 ≤ (nI X.n).toInt64) = decide (0 ≤ l.toInt ∧ l.toInt ≤ X.n) := by
    refine decide_eq_decide.mpr ?_
    rw [show (0 : Int64) = (0 : Int32).toInt64 from rfl, l_le, l_le, show (0 : Int32).toInt = 0 from rfl, nI_toInt (by omega)]
  rw [hx] at q2
  unfold cutX
  by_cases z : 0 ≤ l.toInt ∧ l.toInt ≤ X.n
  · rw [if_pos z, if_pos z]
    rw [decide_eq_true z, tr_t] at q2
    obtain ⟨k, hk, rfl⟩ := nI_of (x := l) (by rw [Int32.lt_iff_toInt_lt]; show ¬ l.toInt < 0; omega)
    rw [nI_toInt hk] at z
    rw [nI_clamp (by omega)]
    have q := y225_1 (sa := sa) (sv := sv) (d := d) hR
    have hf : Fr (PFr N) m (si_ (si_ m (N + 243) 0 (nI 0)) (N + 243) 2 (nI k)) := ((Fr.refl _ _).si (Or.inr ⟨rfl, Or.inr rfl⟩)).si (Or.inr ⟨rfl, Or.inl rfl⟩)
    refine ⟨_, nI k, hf.mono fun a k z => z.k, TR.buf h hf (fun j hj => (Eq.trans (b := gi_ m (N + 244) j) (by rw [gi_si, if_neg (by omega), gi_si, if_neg (by omega)]) (h.b j (by omega)))) (if_pos ⟨rfl, rfl⟩), ?_, ?_, fun _ => rfl⟩
    · rw [c229, b229_0]
      simp (disch := omega) only [gq_true, gb_true, gb_false, true_and, and_true, eq_self, not_false_eq_true, not_true_eq_false, true_or, or_true, false_or, or_false, false_and, and_false, c0_v, ci_v, cl_v, cf_v, pk_mul, nI_add, nI_clamp, nI_lt0, nI_0le, nI_eq0, nI_lt0r, nI_ltE, nI_leE, nI_eqE, nI_m1, in_t, ba0, ba1, Nat.one_ne_zero, Nat.reduceEqDiff, Nat.reduceLeDiff, Nat.add_eq_zero_iff, xk243 hX, h.n, q2, q, gk_siF]
    · rw [gi_si, if_neg (by omega)]
      exact if_pos ⟨rfl, rfl⟩
  · rw [if_neg z, if_neg z]
    rw [decide_eq_false z, tr_f] at q2
    have q := y225_0 (sa := sa) (sv := sv) (d := d) hR
    refine RI.no h 1 (by omega) _ ?_
    rw [c229, b229_0]
    simp (disch := omega) only [gq_true, gb_true, gb_false, true_and, and_true, eq_self, not_false_eq_true, not_true_eq_false, true_or, or_true, false_or, or_false, false_and, and_false, c0_v, ci_v, cl_v, cf_v, pk_mul, nI_add, nI_clamp, nI_lt0, nI_0le, nI_eq0, nI_lt0r, nI_ltE, nI_leE, nI_eqE, nI_m1, in_t, ba0, ba1, Nat.one_ne_zero, Nat.reduceEqDiff, Nat.reduceLeDiff, Nat.add_eq_zero_iff, xk243 hX, h.n, q2, q]
end R89
