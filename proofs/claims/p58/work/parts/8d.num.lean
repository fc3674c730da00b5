/-! the builder: a number -/
theorem nI_negT {n : Nat} (h : n < 2 ^ 30) : (-nI n).toInt = -(n : Int) := by
  rw [Int32.toInt_neg, nI_toInt (by omega)]
  exact Int.bmod_eq_of_le (by omega) (by omega)
theorem nI_gle {a b : Nat} (ha : a < 2 ^ 30) (hb : b < 2 ^ 30) : (-nI a ≤ -nI b) = (b ≤ a) := propext (by
  rw [Int32.le_iff_toInt_le, nI_negT ha, nI_negT hb]; omega)
theorem nI_glt {a b : Nat} (ha : a < 2 ^ 30) (hb : b < 2 ^ 30) : (-nI a < -nI b) = (b < a) := propext (by
  rw [Int32.lt_iff_toInt_lt, nI_negT ha, nI_negT hb]; omega)
theorem nI_nn (a : Nat) : - -nI a = nI a := Int32.neg_neg
theorem nI_p_1 {p : Nat} (h : 0 < p) : nI p + (-1 : Int32) = nI (p - 1) := by
  rw [show (-1 : Int32) = -nI 1 from by decide, ← Int32.sub_eq_add_neg, nI_sub h]
theorem nI_ndiv {n : Nat} (h : n < 10000) : -nI n / nI 100 = -nI (n / 100) := by
  apply Int32.toInt_inj.mp
  rw [nI_negT (by omega), Int32.toInt_div, nI_negT (by omega), nI_toInt (by omega), Int.bmod_eq_of_le]
  · rw [Int.neg_tdiv]
    congr 1
  · rw [Int.neg_tdiv]
    have : ((n : Int).tdiv (100 : Nat)) = ((n / 100 : Nat) : Int) := rfl
    omega
  · rw [Int.neg_tdiv]
    have : ((n : Int).tdiv (100 : Nat)) = ((n / 100 : Nat) : Int) := rfl
    omega
theorem nI_nrem {n : Nat} (h : n < 10000) : -nI (n / 100) * nI 100 - -nI n = nI (n % 100) := by
  apply Int32.toInt_inj.mp
  rw [Int32.toInt_sub, Int32.toInt_mul, nI_negT (by omega), nI_negT (by omega), nI_toInt (by omega), nI_toInt (by omega)]
  rw [Int.bmod_eq_of_le (n := -((n / 100 : Nat) : Int) * (100 : Nat)) (by omega) (by omega), Int.bmod_eq_of_le (by omega) (by omega)]
  omega
def c0_ (k : Nat) : Int32 := nI (48 + k)
theorem c0_f {k : Nat} (h : k < 80) : (c0_ k).toInt8.toInt32 = c0_ k := (ch_f (48 + k) (by omega)).2.2
/-- a number in signs -/
def dg_ (n : Nat) : List Int32 := if n < 10 then [c0_ n] else if n < 100 then [c0_ (n / 10), c0_ (n % 10)] else if n < 1000 then [c0_ (n / 100), c0_ (n / 10 % 10), c0_ (n % 10)] else [c0_ (n / 1000), c0_ (n / 100 % 10), c0_ (n / 10 % 10), c0_ (n % 10)]
theorem dg_1 {n : Nat} (h : n < 10) : dg_ n = [c0_ n] := if_pos h
theorem dg_2 {n : Nat} (h : ¬ n < 10) (h2 : n < 100) : dg_ n = [c0_ (n / 10), c0_ (n % 10)] := (if_neg h).trans (if_pos h2)
theorem dg_3 {n : Nat} (h : ¬ n < 100) (h2 : n < 1000) : dg_ n = [c0_ (n / 100), c0_ (n / 10 % 10), c0_ (n % 10)] := (if_neg (by omega)).trans ((if_neg h).trans (if_pos h2))
theorem dg_4 {n : Nat} (h : ¬ n < 1000) : dg_ n = [c0_ (n / 1000), c0_ (n / 100 % 10), c0_ (n / 10 % 10), c0_ (n % 10)] := (if_neg (by omega)).trans ((if_neg (by omega)).trans (if_neg h))
theorem dg_asc {n : Nat} (h : n < 10000) : Asc (dg_ n) := by
  intro c hc
  unfold dg_ at hc
  repeat' split at hc
  all_goals simp only [List.mem_cons, List.not_mem_nil, or_false] at hc
  · exact ⟨48 + n, by omega, hc⟩
  · rcases hc with e | e <;> exact ⟨_, by omega, e⟩
  · rcases hc with e | e | e <;> exact ⟨_, by omega, e⟩
  · rcases hc with e | e | e | e <;> exact ⟨_, by omega, e⟩
theorem dg_len {n : Nat} : 1 ≤ (dg_ n).length ∧ (dg_ n).length ≤ 4 := by
  unfold dg_
  repeat' split
  all_goals simp only [List.length_cons, List.length_nil]
  all_goals omega
/-- the tables of digits -/
def DT (m : am_M) (sv : Nat) : Prop := gk_ m (gr_ m sv 41) = (9, 100) ∧ gk_ m (gr_ m sv 42) = (9, 100) ∧ (∀ j, j < 100 → gi_ m (gr_ m sv 41) j = c0_ (j % 10)) ∧ ∀ j, j < 100 → gi_ m (gr_ m sv 42) j = c0_ (j / 10)
section B8
variable {sa sv d b c : Nat} {m m1 : am_M} {l : List Int32}
theorem x268 {n : Nat} (hn : n < 10000) : am_ca sa sv (d + 1) 268 [.int (nI n)] m = some (.inl (some (.int (nI (dg_ n).length))), m) := by
  have q1 : (nI 10 * (-10 : Int32)) = -nI 100 := by decide
  have q2 : (nI 10 * -nI 100) = -nI 1000 := by decide
  have q3 : (nI 10 * -nI 1000) = -nI 10000 := by decide
  rw [c268, b268_0, gb_neg (nI_pos (by omega)), b268_16, gb_neg (by decide), show (-10 : Int32) = -nI 10 from by decide]
  by_cases h1 : n < 10
  · rw [gb_neg (by rw [nI_gle (by omega) (by omega)]; omega), nI_add, dg_1 h1]
    rfl
  rw [gb_pos (by rw [nI_gle (by omega) (by omega)]; omega), show (nI 10 * -nI 10 : Int32) = -nI 100 from by decide, nI_add, b268_16, gb_neg (by decide)]
  by_cases h2 : n < 100
  · rw [gb_neg (by rw [nI_gle (by omega) (by omega)]; omega), nI_add, dg_2 h1 h2]
    rfl
  rw [gb_pos (by rw [nI_gle (by omega) (by omega)]; omega), q2, nI_add, b268_16, gb_neg (by decide)]
  by_cases h3 : n < 1000
  · rw [gb_neg (by rw [nI_gle (by omega) (by omega)]; omega), nI_add, dg_3 h2 h3]
    rfl
  rw [gb_pos (by rw [nI_gle (by omega) (by omega)]; omega), q3, nI_add, b268_16, gb_neg (by decide), gb_neg (by rw [nI_gle (by omega) (by omega)]; omega), nI_add, dg_4 h3]
  rfl
/-- two signs at the most -/
theorem x267_2 {n a c p : Nat} (hD : DT m sv) (hn : n < 100) (ha : gk_ m a = (3, c)) (hc : c < 2 ^ 20) (hp : p ≤ c) (h1 : n < 10 → 1 ≤ p) (h2 : ¬ n < 10 → 2 ≤ p) (l1 : Int32) (o3 o4 : Option Value) : r267 sa sv d 22 [some (.int (-nI n)), some (.int l1), some (.ref a), o3, o4, some (.int (nI p)), some (.int (nI 0))] [] m = if n < 10 then some (.inl (some (.int (nI (p - 1)))), si_ m a (p - 1) (c0_ n)) else some (.inl (some (.int (nI (p - 2)))), si_ (si_ m a (p - 1) (c0_ (n % 10))) a (p - 2) (c0_ (n / 10))) := by
  obtain ⟨t1, t2, t3, t4⟩ := hD
  have h3 : 1 ≤ p := by by_cases q : n < 10; exact h1 q; have := h2 q; omega
  have na : ¬ gr_ m sv 42 = a := fun z => by rw [z, ha] at t2; exact absurd (congrArg (fun q => q.1) t2) (by show ¬ 3 = 9; decide)
  rw [b267_22, gb_pos (by rw [show (-100 : Int32) = -nI 100 from by decide, nI_glt (by omega) (by omega)]; exact hn), nI_nn, nI_clamp (show n < 2 ^ 31 by omega), t1, gq_pos ⟨.inr rfl, in_of hn (by omega)⟩, nI_p_1 h3, ha, gq_pos ⟨rfl, in_of (show p - 1 < c by omega) (by omega)⟩, t3 n hn, nI_clamp (show p - 1 < 2 ^ 31 by omega), c0_f (show n % 10 < 80 by omega)]
  by_cases q : n < 10
  · rw [gb_pos (by rw [show (-9 : Int32) = -nI 9 from by decide, nI_gle (by omega) (by omega)]; omega), gb_pos nI_0, if_pos q, show n % 10 = n by omega]
  · have h4 := h2 q
    rw [gb_neg (by rw [show (-9 : Int32) = -nI 9 from by decide, nI_gle (by omega) (by omega)]; omega), t2, gq_pos ⟨.inr rfl, in_of hn (by omega)⟩, nI_p_1 (show 0 < p - 1 by omega), gq_pos ⟨rfl, in_of (show p - 1 - 1 < c by omega) (by omega)⟩, gb_pos nI_0, if_neg q, gi_si, if_neg (fun z => na z.1), t4 n hn, show p - 1 - 1 = p - 2 by omega, nI_clamp (show p - 2 < 2 ^ 31 by omega), c0_f (show n / 10 < 80 by omega)]
theorem Fr.pt {P : Nat → Nat → Prop} (h : Fr P m m1) : gk_ m1 = gk_ m := h.1.1
/-- a number's signs before p -/
theorem x267 {n a c p : Nat} (hD : DT m sv) (hn : n < 10000) (ha : gk_ m a = (3, c)) (hc : c < 2 ^ 20) (hp : p + (dg_ n).length ≤ c) (h41 : ¬ gr_ m sv 41 = a) (h42 : ¬ gr_ m sv 42 = a) : ∃ m', am_ca sa sv (d + 1) 267 [.int (nI n), .int (nI (p + (dg_ n).length)), .ref a] m = some (.inl (some (.int (nI p))), m') ∧ Fr (fun x _ => x = a) m m' ∧ (∀ j, ¬ (p ≤ j ∧ j < p + (dg_ n).length) → gi_ m' a j = gi_ m a j) ∧ ∀ j, j < (dg_ n).length → gi_ m' a (p + j) = (dg_ n).getD j 0 := by
  rw [c267, b267_0, gb_pos (nI_pos' (by omega)), gb_pos nI_0]
  have f1 : ∀ k (v : Int32), Fr (fun x _ => x = a) m (si_ m a k v) := fun k v => (Fr.refl _ _).si rfl
  have f2 : ∀ k k' (v v' : Int32), Fr (fun x _ => x = a) m (si_ (si_ m a k v) a k' v') := fun k k' v v' => (f1 k v).si rfl
  have f3 : ∀ k k' k2 (v v' v2 : Int32), Fr (fun x _ => x = a) m (si_ (si_ (si_ m a k v) a k' v') a k2 v2) := fun k k' k2 v v' v2 => (f2 k k' v v').si rfl
  have f4 : ∀ k k' k2 k3 (v v' v2 v3 : Int32), Fr (fun x _ => x = a) m (si_ (si_ (si_ (si_ m a k v) a k' v') a k2 v2) a k3 v3) := fun k k' k2 k3 v v' v2 v3 => (f3 k k' k2 v v' v2).si rfl
  by_cases h2 : n < 100
  · by_cases h1 : n < 10
    · have e := dg_1 h1
      rw [e] at hp ⊢
      have hp : p + 1 ≤ c := hp
      rw [show p + [c0_ n].length = p + 1 from rfl, x267_2 hD h2 ha hc (by omega) (by omega) (by omega), if_pos h1, Nat.add_sub_cancel]
      refine ⟨_, rfl, f1 _ _, fun j hj => by rw [gi_si, if_neg (by omega)], fun j hj => ?_⟩
      have hj : j < 1 := hj
      have : j = 0 := by omega
      subst this
      exact gi_si1 _ _ _ _
    · have e := dg_2 h1 h2
      rw [e] at hp ⊢
      have hp : p + 2 ≤ c := hp
      rw [show p + [c0_ (n / 10), c0_ (n % 10)].length = p + 2 from rfl, x267_2 hD h2 ha hc (by omega) (by omega) (by omega), if_neg h1, Nat.add_sub_cancel, show p + 2 - 1 = p + 1 by omega]
      refine ⟨_, rfl, f2 _ _ _ _, fun j hj => by rw [gi_si, if_neg (by omega), gi_si, if_neg (by omega)], fun j hj => ?_⟩
      have hj : j < 2 := hj
      obtain rfl | rfl : j = 0 ∨ j = 1 := by omega
      · exact gi_si1 _ _ _ _
      · rw [gi_si, if_neg (by omega)]
        exact gi_si1 _ _ _ _
  · -- a pair first
    have hl : 3 ≤ (dg_ n).length := by
      by_cases h3 : n < 1000
      · rw [dg_3 h2 h3]; exact Nat.le_refl 3
      · rw [dg_4 h3]; exact Nat.le_succ 3
    generalize hP : p + (dg_ n).length = Q at hp
    obtain ⟨t1, t2, t3, t4⟩ := hD
    have hr : n % 100 < 100 := Nat.mod_lt _ (by omega)
    rw [b267_22, gb_neg (by rw [show (-100 : Int32) = -nI 100 from by decide, nI_glt (by omega) (by omega)]; exact h2), gq_pos (by decide), nI_ndiv hn, nI_nrem hn, nI_clamp (show n % 100 < 2 ^ 31 by omega), t1, t2, gq_pos ⟨.inr rfl, in_of hr (by omega)⟩, nI_p_1 (show 0 < Q by omega), ha, gq_pos ⟨rfl, in_of (show Q - 1 < c by omega) (by omega)⟩, gq_pos ⟨.inr rfl, in_of hr (by omega)⟩, nI_p_1 (show 0 < Q - 1 by omega), gq_pos ⟨rfl, in_of (show Q - 1 - 1 < c by omega) (by omega)⟩, t3 _ hr, nI_clamp (show Q - 1 < 2 ^ 31 by omega), gi_si, if_neg (fun z => h42 z.1), t4 _ hr, nI_clamp (show Q - 1 - 1 < 2 ^ 31 by omega), c0_f (show n % 100 % 10 < 80 by omega), c0_f (show n % 100 / 10 < 80 by omega), show n % 100 % 10 = n % 10 by omega, show n % 100 / 10 = n / 10 % 10 by omega, show Q - 1 - 1 = Q - 2 by omega]
    have fM := f2 (Q - 1) (Q - 2) (c0_ (n % 10)) (c0_ (n / 10 % 10))
    generalize hM : si_ (si_ m a (Q - 1) (c0_ (n % 10))) a (Q - 2) (c0_ (n / 10 % 10)) = M at fM
    have iM : ∀ j, gi_ M a j = if j = Q - 2 then c0_ (n / 10 % 10) else if j = Q - 1 then c0_ (n % 10) else gi_ m a j := fun j => by
      rw [← hM, gi_si, gi_si]
      by_cases q1 : j = Q - 2
      · rw [if_pos ⟨rfl, q1⟩, if_pos q1]
      · rw [if_neg (fun z => q1 z.2), if_neg q1]
        by_cases q2 : j = Q - 1
        · rw [if_pos ⟨rfl, q2⟩, if_pos q2]
        · rw [if_neg (fun z => q2 z.2), if_neg q2]
    have rM : gr_ M = gr_ m := by rw [← hM]; rfl
    have kM : gk_ M = gk_ m := fM.1.1
    have iN : ∀ x, ¬ x = a → ∀ j, gi_ M x j = gi_ m x j := fun x hx j => fM.2.1 x j hx
    have hD' : DT M sv := by
      unfold DT
      rw [rM, kM]
      exact ⟨t1, t2, fun j hj => (iN _ h41 j).trans (t3 j hj), fun j hj => (iN _ h42 j).trans (t4 j hj)⟩
    have kA : gk_ M a = (3, c) := by rw [kM, ha]
    have hn100 : n / 100 < 100 := by omega
    by_cases h3 : n < 1000
    · have e := dg_3 h2 h3
      rw [e] at hP ⊢
      have hP : p + 3 = Q := hP
      rw [x267_2 hD' hn100 kA hc (by omega) (by omega) (by omega), if_pos (show n / 100 < 10 by omega), show Q - 2 - 1 = p by omega]
      refine ⟨_, rfl, fM.si rfl, fun j hj => ?_, fun j hj => ?_⟩
      · rw [gi_si, if_neg (by omega), iM, if_neg (by omega), if_neg (by omega)]
      · have hj : j < 3 := hj
        obtain rfl | rfl | rfl : j = 0 ∨ j = 1 ∨ j = 2 := by omega
        · exact gi_si1 _ _ _ _
        · rw [gi_si, if_neg (by omega), iM, if_pos (by omega)]; rfl
        · rw [gi_si, if_neg (by omega), iM, if_neg (by omega), if_pos (by omega)]; rfl
    · have e := dg_4 h3
      rw [e] at hP ⊢
      have hP : p + 4 = Q := hP
      rw [x267_2 hD' hn100 kA hc (by omega) (by omega) (by omega), if_neg (show ¬ n / 100 < 10 by omega), show Q - 2 - 2 = p by omega, show Q - 2 - 1 = p + 1 by omega]
      refine ⟨_, rfl, (fM.si rfl).si rfl, fun j hj => ?_, fun j hj => ?_⟩
      · rw [gi_si, if_neg (by omega), gi_si, if_neg (by omega), iM, if_neg (by omega), if_neg (by omega)]
      · have hj : j < 4 := hj
        obtain rfl | rfl | rfl | rfl : j = 0 ∨ j = 1 ∨ j = 2 ∨ j = 3 := by omega
        · show gi_ (si_ _ a p _) a p = _
          rw [gi_si1, show n / 100 / 10 = n / 1000 by omega]; rfl
        · rw [gi_si, if_neg (by omega), gi_si1]; rfl
        · rw [gi_si, if_neg (by omega), gi_si, if_neg (by omega), iM, if_pos (by omega)]; rfl
        · rw [gi_si, if_neg (by omega), gi_si, if_neg (by omega), iM, if_neg (by omega), if_pos (by omega)]; rfl
/-- behind the signs that a builder's array got -/
theorem SBc.apF {w : List Int32} (h : SBc m b c l) (hw : Asc w) (hc : l.length + w.length ≤ c) (f : Fr (fun x _ => x = gr_ m b 0) m m1) (g1 : ∀ j, j < l.length → gi_ m1 (gr_ m b 0) j = gi_ m (gr_ m b 0) j) (g2 : ∀ j, j < w.length → gi_ m1 (gr_ m b 0) (l.length + j) = w.getD j 0) : SBc (si_ m1 b 3 (nI (l.length + w.length))) b c (l ++ w) := by
  obtain ⟨h1, h3, h4, h5, h6, h7, h8, h9, h10, h11, h12, h13⟩ := h
  obtain ⟨⟨f1, f2, f3, f4, f5⟩, f6, f7, f8, f9⟩ := f
  have nb : ¬ gr_ m b 0 = b := fun z => by rw [z, h1] at h5; exact absurd (congrArg (fun q => q.1) h5) (by show ¬ 1 = 3; decide)
  have nb' : ¬ b = gr_ m b 0 := fun z => nb z.symm
  have rb : gr_ (si_ m1 b 3 (nI (l.length + w.length))) b 0 = gr_ m b 0 := by rw [gr_si]; exact f8 b 0 nb'
  refine ⟨by show gk_ m1 b = _; rw [f1, h1], ?_, by rw [rb]; exact h4, by rw [rb]; show gk_ m1 _ = _; rw [f1, h5], by rw [List.length_append]; exact hc, h7, by rw [gi_si1, List.length_append], fun j hj => ?_, h10.app hw, by show b < gt_ m1; omega, by rw [rb]; show _ < gt_ m1; omega, by show ge_ m1 = true; rw [f5, h13]⟩
  · rw [gi_si, if_neg (fun z => absurd z.2 (by decide)), f6 b 1 nb', h3]
  · rw [List.length_append] at hj
    rw [rb, gi_si, if_neg (fun z => nb z.1), app_at]
    by_cases q : j < l.length
    · rw [if_pos q, g1 j q, h9 j q]
    · rw [if_neg q]
      have := g2 (j - l.length) (by omega)
      rw [show l.length + (j - l.length) = j by omega] at this
      exact this
theorem x262 {n : Nat} (h : SBv m b l) (hD : DT m sv) (hlt : gr_ m sv 41 < gt_ m ∧ gr_ m sv 42 < gt_ m ∧ sv < gt_ m) (hn : n < 10000) (hsv : gk_ m sv = (0, 0)) (h2 : l.length + (dg_ n).length ≤ 1000) : ∃ m', am_ca sa sv (d + 4) 262 [.ref b, .int (nI n)] m = some (.inl (some (.ref b)), m') ∧ SBv m' b (l ++ dg_ n) ∧ Eb b 1 2002 m m' := by
  obtain ⟨c, h⟩ := h
  obtain ⟨m1, c1, e1, b1, c2, x1⟩ := x258 (sa := sa) (sv := sv) (d := d) h (l.length + (dg_ n).length) h2
  have k1 := b1.1
  have l3 := b1.2.2.2.2.2.2.1
  have ka1 := b1.2.2.2.1
  have hf := b1.fits
  obtain ⟨t1, t2, t3, t4⟩ := hD
  have nosb : ∀ x, x < gt_ m → (gk_ m x).1 = 9 ∨ (gk_ m x).1 = 0 → ¬ SBp m b x := fun x hx hk z => by
    unfold SBp at z
    have p1 := h.1
    have p2 := h.2.2.2.1
    rcases z with z | z
    · rw [z, p1] at hk
      exact absurd hk (by show ¬ (1 = 9 ∨ 1 = 0); decide)
    · rw [z, p2] at hk
      exact absurd hk (by show ¬ (3 = 9 ∨ 3 = 0); decide)
  have rs : gr_ m1 sv = gr_ m sv := x1.1.r hlt.2.2 (nosb _ hlt.2.2 (.inr (by rw [hsv])))
  have n41 := nosb _ hlt.1 (.inl (by rw [t1]))
  have n42 := nosb _ hlt.2.1 (.inl (by rw [t2]))
  have D1 : DT m1 sv := by
    unfold DT
    rw [rs, x1.1.k hlt.1, x1.1.k hlt.2.1, x1.1.i hlt.1 n41, x1.1.i hlt.2.1 n42]
    exact ⟨t1, t2, t3, t4⟩
  have a41 : ¬ gr_ m1 sv 41 = gr_ m1 b 0 := fun z => by
    have := D1.1
    rw [z, ka1] at this
    exact absurd (congrArg (fun q => q.1) this) (by show ¬ 3 = 9; decide)
  have a42 : ¬ gr_ m1 sv 42 = gr_ m1 b 0 := fun z => by
    have := D1.2.1
    rw [z, ka1] at this
    exact absurd (congrArg (fun q => q.1) this) (by show ¬ 3 = 9; decide)
  obtain ⟨m2, e2, f2, g1, g2⟩ := x267 (sa := sa) (sv := sv) (d := d + 2) (p := l.length) D1 hn ka1 (by omega) c2 a41 a42
  refine ⟨_, ?_, ⟨c1, b1.apF (dg_asc hn) c2 f2 (fun j hj => g1 j (by omega)) g2⟩, ⟨?_, ?_⟩⟩
  · rw [c262, b262_0, gq_pos h.1, x268 hn, ci_v, gq_pos h.1, h.2.2.2.2.2.2.1, nI_add, e1, c0_v, gq_pos k1, x264 b1, ci_v, gb_neg (by decide), gq_pos ⟨k1, b1.2.2.1⟩, e2, ci_v, gq_pos (by rw [f2.1.1]; exact k1)]
  · refine Ex.si (Ex.trans (n' := 0) (z' := 0) x1.1 (Ex.of (P := fun x => x = gr_ m1 b 0) f2 (fun a k z => z)) (fun a ha z => ?_)) (.inr (.inl rfl))
    rcases x1.2 with q | q
    · exact .inr (z.trans q)
    · omega
  · have hb : ¬ b = gr_ m1 b 0 := fun z => by
      rw [← z, k1] at ka1
      exact absurd (congrArg (fun q => q.1) ka1) (by show ¬ 1 = 3; decide)
    rw [gr_si, f2.2.2.2.1 b 0 hb]
    exact x1.2
theorem x223 {n : Nat} (h : SBv m b l) (hD : DT m sv) (hlt : gr_ m sv 41 < gt_ m ∧ gr_ m sv 42 < gt_ m ∧ sv < gt_ m) (hn : n < 10000) (hsv : gk_ m sv = (0, 0)) (h2 : l.length + (dg_ n).length ≤ 1000) : ∃ m', am_ca sa sv (d + 5) 223 [.ref b, .int (nI n)] m = some (.inl (some (.ref b)), m') ∧ SBv m' b (l ++ dg_ n) ∧ Eb b 1 2002 m m' := by
  obtain ⟨m1, e1, b1, x1⟩ := x262 (sa := sa) (sv := sv) (d := d) h hD hlt hn hsv h2
  exact ⟨m1, by rw [c223, b223_0, gq_pos h.choose_spec.1, e1, cr_v], b1, x1⟩
end B8
