/-! a script's command is done: what it does; the class -/
def dO (x : Ins) (s : Nat → Int32) (q : Nat → Int64) : Option ((Nat → Int32) × (Nat → Int64)) :=
  if x.1 = 23 then bif amt_ (nI x.2.2) then some (bS_ s (dL_ s x.2.1 x.2.2), bQ_ s (dL_ s x.2.1 x.2.2) (dvd_ s (cN s 4) x.2.1 x.2.2).1 q) else none
  else if x.1 = 24 then bif cps_ s (nI x.2.1) then some (up1 s 4 (s 4 + nI x.2.1), q) else none
  else if x.1 = 25 then bif inR (nI x.2.1) (cN s 2) && crv_ s x.2.1 (nI x.2.2) then some (up1 s (594 + 6 * x.2.1 + 5) (nI x.2.2), q) else none
  else if x.1 = 8 then bif inR (nI x.2.2) 100000 then some (up1 s (8 + x.2.1) (nI x.2.2), q) else none
  else some (cS_ s, cQ_ s q)
theorem InG.cg {s s' : Nat → Int32} {x : Ins} (h : InG s x) (h0 : cN s' 0 = cN s 0) (h1 : cN s' 1 = cN s 1) : InG s' x := by
  unfold InG at h ⊢
  rw [h0, h1]
  exact h
section R89
variable {sa sv d N o B p : Nat} {m m' : am_M} {s : Nat → Int32} {q : Nat → Int64} {x : Ins}
theorem dO_G (hG : WG B s q) (hB : B < 2 ^ 29) (hx : InG s x) {y : (Nat → Int32) × (Nat → Int64)} (h : dO x s q = some y) : WG (B + 1) y.1 y.2 ∧ cN y.1 0 = cN s 0 ∧ cN y.1 1 = cN s 1 := by
  have hC := hG.C
  have hF := hG.1
  unfold dO at h
  split at h
  · rename_i e
    cases ha : amt_ (nI x.2.2) with
    | false => rw [ha] at h; cases h
    | true =>
      rw [ha] at h
      obtain ⟨a, a1, a2, a3⟩ := amt_t.mp ha
      have ax : x.2.2 ≤ 9999999 := by
        have hx2 : x.2.2 ≤ 999999 ∨ x.1 = 24 ∨ x.1 = 26 := by unfold InG at hx; omega
        omega
      have hw : x.2.1 < cN s 1 := by unfold InG at hx; omega
      rw [← Option.some.inj h]
      refine ⟨hG.book (by omega) (dvd_64 hC (wf_w hF) _ _ _ hw) (by have := dvd_lsm hC (wf_w hF) (wf_a hF) (cN s 4) x.2.1 x.2.2 hw; show lsm_ (dvd_ s (cN s 4) x.2.1 x.2.2).2 ≤ _; omega) (dvd_GL hC (wf_w hF) (wf_a hF) _ _ _ hw ax) (fun u => by have := dvd_le hC (wf_w hF) (wf_a hF) (cN s 4) x.2.1 x.2.2 hw u; omega) (fun u hu => dvd_hi hC (wf_w hF) _ _ _ hw hu), ?_, ?_⟩
      · exact cN_cg (show bS_ s (dL_ s x.2.1 x.2.2) 0 = s 0 from bS_o _ (by omega) (by omega))
      · exact cN_cg (show bS_ s (dL_ s x.2.1 x.2.2) 1 = s 1 from bS_o _ (by omega) (by omega))
  split at h
  · rename_i e
    cases ha : cps_ s (nI x.2.1) with
    | false => rw [ha] at h; cases h
    | true =>
      rw [ha] at h
      rw [← Option.some.inj h]
      unfold cps_ at ha
      rw [Bool.and_eq_true] at ha
      have hx1 : x.2.1 ≤ 999999 := by unfold InG at hx; omega
      have a2 := of_decide_eq_true ha.2
      obtain ⟨e4, b4⟩ := (wc_day hC).c (by decide)
      rw [e4, nI_toInt (by omega), nI_toInt (by omega)] at a2
      have := (hG.day (cN s 4 + x.2.1) (by omega)).mono (B' := B + 1) (by omega)
      refine ⟨?_, cN_cg (show up1 s 4 (s 4 + nI x.2.1) 0 = s 0 from if_neg (by omega)), cN_cg (show up1 s 4 (s 4 + nI x.2.1) 1 = s 1 from if_neg (by omega))⟩
      show WG (B + 1) (up1 s 4 (s 4 + nI x.2.1)) q
      rw [e4, nI_add]
      exact this
  split at h
  · rename_i e
    cases ha : inR (nI x.2.1) (cN s 2) && crv_ s x.2.1 (nI x.2.2) with
    | false => rw [ha] at h; cases h
    | true =>
      rw [ha] at h
      rw [← Option.some.inj h]
      rw [Bool.and_eq_true] at ha
      have hx1 : x.2.1 ≤ 999999 ∧ x.2.2 ≤ 999999 := by unfold InG at hx; omega
      have na := isN_lt (wc_na hC) (by decide)
      obtain ⟨k, k1, k2⟩ := (inR_t (by omega)).mp ha.1
      have ek := (nI_eq (a := x.2.1) (b := k) (by omega) (by omega)).mp k2
      have c3 := of_decide_eq_true ha.2
      obtain ⟨u1, u2⟩ := (wa_u (wf_a hF) x.2.1 (by omega)).c (by decide)
      have lt := c3.2.1
      rw [u1] at lt
      have := (nI_ltI (by omega) (by omega)).mp lt
      exact ⟨(hG.revert x.2.1 x.2.2 (by omega) this).mono (by omega), cN_cg (show up1 s (594 + 6 * x.2.1 + 5) (nI x.2.2) 0 = s 0 from if_neg (by omega)), cN_cg (show up1 s (594 + 6 * x.2.1 + 5) (nI x.2.2) 1 = s 1 from if_neg (by omega))⟩
  split at h
  · rename_i e
    cases ha : inR (nI x.2.2) 100000 with
    | false => rw [ha] at h; cases h
    | true =>
      rw [ha] at h
      rw [← Option.some.inj h]
      have hx1 : x.2.1 < cN s 0 ∧ x.2.2 ≤ 999999 := by unfold InG at hx; omega
      have np := isN_lt (wc_np hC) (by decide)
      obtain ⟨k, k1, k2⟩ := (inR_t (by omega)).mp ha
      have ek := (nI_eq (a := x.2.2) (b := k) (by omega) (by omega)).mp k2
      exact ⟨(hG.least x.2.1 x.2.2 (by omega) (by omega)).mono (by omega), cN_cg (show up1 s (8 + x.2.1) (nI x.2.2) 0 = s 0 from if_neg (by omega)), cN_cg (show up1 s (8 + x.2.1) (nI x.2.2) 1 = s 1 from if_neg (by omega))⟩
  · rw [← Option.some.inj h]
    refine ⟨hG.close hB, cN_cg ?_, cN_cg ?_⟩
    · show cS_ s 0 = s 0
      unfold cS_
      rw [if_neg (by omega), if_neg (by omega), if_neg (by omega), if_neg (by omega)]
    · show cS_ s 1 = s 1
      unfold cS_
      rw [if_neg (by omega), if_neg (by omega), if_neg (by omega), if_neg (by omega)]
/-- what the class writes as it does a script -/
def PXr (N o a k : Nat) : Prop := DX N a k ∨ OA o a ∨ (a = N + 10 ∧ k = 3)
def PXo (N o a k : Nat) : Prop := DX N a k ∨ OA o a
theorem PXo.r {a k : Nat} (h : PXo N o a k) : PXr N o a k := by
  rcases h with h | h
  · exact Or.inl h
  · exact Or.inr (Or.inl h)
def SX (m : am_M) (N o : Nat) : Prop := XS m N ∧ gr_ m (N + 10) 1 = o ∧ gr_ m (N + 10) 2 = N + 14 ∧ OS m o ∧ N + 27 ≤ o ∧ o + 27 ≤ N + 243
theorem PXr.i {a k : Nat} (h : PXr N o a k) (h1 : N + 27 ≤ o) : ¬ a = N + 11 ∧ ¬ a = N + 12 ∧ ¬ (a = N + 10 ∧ ¬ k = 3) := by
  rcases h with h | h | h
  · unfold DX DP DQ DC DL at h
    omega
  · unfold OA at h
    omega
  · omega
theorem x127c (hX : XS m N) (p c : Nat) (hp : p < 30) (hc : c < 4) : am_ca sa sv (d + 1) 127 [.ref (N + 11), .int (nI p), .int (nI c)] m = some (.inl (some (.int (gi_ m (N + 12) (p * 4 + c)))), m) := tb_at (xt11 hX) (by decide) p c (by omega)
theorem x101 (hS : SX m N o) (hV : OV m o s q) (hG : WG B s q) (hB : B < 2 ^ 29) (hp : p < 30) (hr : RwO (gi_ m (N + 12)) p x) (hx : InG s x) : match dO x s q with
    | none => am_ca sa sv (d + 5) 101 [.ref (N + 10), .int (nI p)] m = some (.inl (some (.int (nI 0))), m)
    | some y => ∃ m', am_ca sa sv (d + 5) 101 [.ref (N + 10), .int (nI p)] m = some (.inl (some (.int (nI 1))), m') ∧ Fr (PXo N o) m m' ∧ SX m' N o ∧ OV m' o y.1 y.2 := by
  obtain ⟨hX, r1, r2, hO, h1, h2⟩ := hS
  obtain ⟨w0, w1, w2⟩ := hr
  have hC := hG.C
  have hF := hG.1
  have z11 : (N + 11 = 0) = False := eq_false (by omega)
  have zo : (o = 0) = False := eq_false (by omega)
  have zo1 : (o + 1 = 0) = False := eq_false (by omega)
  have zo13 : (o + 13 = 0) = False := eq_false (by omega)
  have z14 : (N + 14 = 0) = False := eq_false (by omega)
  have c0 := x127c (sa := sa) (sv := sv) (d := d + 3) hX p 0 hp (by omega)
  have c1 := x127c (sa := sa) (sv := sv) (d := d + 3) hX p 1 hp (by omega)
  have c2 := x127c (sa := sa) (sv := sv) (d := d + 3) hX p 2 hp (by omega)
  have w0' : gi_ m (N + 12) (p * 4 + 0) = nI x.1 := w0
  rw [w0'] at c0
  have np := isN_lt (wc_np hC) (by decide)
  have na := isN_lt (wc_na hC) (by decide)
  have keep : ∀ {m' : am_M} {P : Nat → Nat → Prop}, Fr P m m' → (∀ a k, P a k → DX N a k ∨ OA o a) → XS m' N → OS m' o → Fr (PXo N o) m m' ∧ SX m' N o := fun {m' P} hf hpp hX' hO' => by
    have hf' : Fr (PXo N o) m m' := hf.mono hpp
    exact ⟨hf', hX', (hf'.2.2.2.1 _ _ (fun z => (z.r.i h1).2.2 ⟨rfl, by omega⟩)).trans r1, (hf'.2.2.2.1 _ _ (fun z => (z.r.i h1).2.2 ⟨rfl, by omega⟩)).trans r2, hO', h1, h2⟩
  have cell : ∀ (j k : Nat) (v : Int32), j < 27 → OS (si_ m (o + j) k v) o → Fr (PXo N o) m (si_ m (o + j) k v) ∧ SX (si_ m (o + j) k v) N o := fun j k v hj hO' => by
    have f : Fr (fun a _ => OA o a) m (si_ m (o + j) k v) := (Fr.refl _ _).si (by unfold OA; omega)
    exact keep f (fun a k z => Or.inr z) (hX.frO f h1 h2 (fun a k z => z)) hO'
  have head : ∀ r, r101 sa sv (d + 4) 0 [some (.ref (N + 10)), some (.int (nI p)), none, none] [] m = r → am_ca sa sv (d + 5) 101 [.ref (N + 10), .int (nI p)] m = r := fun r hr => by rw [c101]; exact hr
  unfold dO
  by_cases k23 : x.1 = 23
  · rw [if_pos k23]
    have hw : x.2.1 < cN s 1 ∧ x.2.2 ≤ 999999 := by unfold InG at hx; omega
    rw [w1 (by omega)] at c1
    rw [w2 (by omega)] at c2
    rw [k23] at c0
    have q217 := x217 (sa := sa) (sv := sv) (d := d + 3) (m := m) (nI x.2.2)
    cases ha : amt_ (nI x.2.2) with
    | false =>
      rw [ha, tr_f] at q217
      refine head _ ?_
      rw [b101_0]
      simp (disch := omega) only [gq_true, gb_true, gb_false, true_and, and_true, eq_self, not_false_eq_true, not_true_eq_false, true_or, or_true, false_or, or_false, false_and, and_false, c0_v, ci_v, cl_v, cf_v, pk_mul, nI_add, nI_clamp, nI_lt0, nI_0le, nI_eq0, nI_lt0r, nI_ltE, nI_leE, nI_eqE, nI_m1, in_t, ba0, ba1, Nat.one_ne_zero, Nat.reduceEqDiff, Nat.reduceLeDiff, Nat.add_eq_zero_iff, xk10 hX, xr10_0 hX, xk11 hX, z11, c0, c1, c2, q217, Nat.reduceEqDiff]
    | true =>
      rw [ha, tr_t] at q217
      obtain ⟨m1, m2, m3, m4, p1, p2, p3, p4, p5, p6, p7, p8, p9, q1, q2, q3, q4, q5⟩ := xbook (sa := sa) (sv := sv) (d := d) hX hO hV h1 h2 hG x.2.1 x.2.2 hw.1 (by omega)
      obtain ⟨kf, kS⟩ := keep q2 (fun a k z => z) q3 q4
      obtain ⟨e4, b4⟩ := (wc_day hC).c (by decide)
      have d5 : gi_ m o 0 = nI (cN s 4) := (ov_day hV).trans e4
      have nD : ∀ k, ¬ k = 3 → ¬ DX N (N + 10) k := fun k z y => (PXr.i (o := o) (Or.inl y) h1).2.2 ⟨rfl, z⟩
      have s1 : gr_ m1 (N + 10) 2 = N + 14 := (p2.2.2.2.1 _ _ (nD 2 (by omega))).trans r2
      have s2 : gr_ m2 (N + 10) 2 = N + 14 := (p5.2.2.2.1 _ _ (nD 2 (by omega))).trans r2
      have s3 : gr_ m3 (N + 10) 2 = N + 14 := (p8.2.2.2.1 _ _ (nD 2 (by omega))).trans r2
      have s3' : gr_ m3 (N + 10) 1 = o := (p8.2.2.2.1 _ _ (nD 1 (by omega))).trans r1
      have k3 : gk_ m3 = gk_ m := p8.1.1
      refine ⟨m4, head _ ?_, kf, kS, q5⟩
      rw [b101_0]
      simp (disch := omega) only [gq_true, gb_true, gb_false, true_and, and_true, eq_self, not_false_eq_true, not_true_eq_false, true_or, or_true, false_or, or_false, false_and, and_false, c0_v, ci_v, cl_v, cf_v, pk_mul, nI_add, nI_clamp, nI_lt0, nI_0le, nI_eq0, nI_lt0r, nI_ltE, nI_leE, nI_eqE, nI_m1, in_t, ba0, ba1, Nat.one_ne_zero, Nat.reduceEqDiff, Nat.reduceLeDiff, Nat.add_eq_zero_iff, xk10 hX, xr10_0 hX, xk11 hX, z11, c0, c1, c2, q217, r1, r2, zo, z14, ok0 hO, d5, xk14 hX, Nat.reduceEqDiff]
      rw [p1, c0_v]
      simp (disch := omega) only [gq_true, gb_true, gb_false, true_and, and_true, eq_self, not_false_eq_true, not_true_eq_false, true_or, or_true, false_or, or_false, false_and, and_false, c0_v, ci_v, cl_v, cf_v, pk_mul, nI_add, nI_clamp, nI_lt0, nI_0le, nI_eq0, nI_lt0r, nI_ltE, nI_leE, nI_eqE, nI_m1, in_t, ba0, ba1, Nat.one_ne_zero, Nat.reduceEqDiff, Nat.reduceLeDiff, Nat.add_eq_zero_iff, xk10 p3, s1, z14, xk14 p3]
      rw [p4, c0_v]
      simp (disch := omega) only [gq_true, gb_true, gb_false, true_and, and_true, eq_self, not_false_eq_true, not_true_eq_false, true_or, or_true, false_or, or_false, false_and, and_false, c0_v, ci_v, cl_v, cf_v, pk_mul, nI_add, nI_clamp, nI_lt0, nI_0le, nI_eq0, nI_lt0r, nI_ltE, nI_leE, nI_eqE, nI_m1, in_t, ba0, ba1, Nat.one_ne_zero, Nat.reduceEqDiff, Nat.reduceLeDiff, Nat.add_eq_zero_iff, xk10 p6, s2, z14, xk14 p6]
      rw [p7, c0_v]
      simp (disch := omega) only [gq_true, gb_true, gb_false, true_and, and_true, eq_self, not_false_eq_true, not_true_eq_false, true_or, or_true, false_or, or_false, false_and, and_false, c0_v, ci_v, cl_v, cf_v, pk_mul, nI_add, nI_clamp, nI_lt0, nI_0le, nI_eq0, nI_lt0r, nI_ltE, nI_leE, nI_eqE, nI_m1, in_t, ba0, ba1, Nat.one_ne_zero, Nat.reduceEqDiff, Nat.reduceLeDiff, Nat.add_eq_zero_iff, xk10 p9, s3, s3', z14, zo, k3, ok0 hO]
      rw [q1, c0_v]
  rw [if_neg k23]
  by_cases k24 : x.1 = 24
  · rw [if_pos k24]
    rw [w1 (by omega)] at c1
    rw [k24] at c0
    have q85 := x85 (sa := sa) (sv := sv) (d := d + 2) hO hV hC (nI x.2.1)
    cases ha : cps_ s (nI x.2.1) with
    | false =>
      rw [ha, tr_f] at q85
      refine head _ ?_
      rw [b101_0]
      simp (disch := omega) only [gq_true, gb_true, gb_false, true_and, and_true, eq_self, not_false_eq_true, not_true_eq_false, true_or, or_true, false_or, or_false, false_and, and_false, c0_v, ci_v, cl_v, cf_v, pk_mul, nI_add, nI_clamp, nI_lt0, nI_0le, nI_eq0, nI_lt0r, nI_ltE, nI_leE, nI_eqE, nI_m1, in_t, ba0, ba1, Nat.one_ne_zero, Nat.reduceEqDiff, Nat.reduceLeDiff, Nat.add_eq_zero_iff, xk10 hX, xr10_0 hX, xk11 hX, z11, c0, c1, c2, r1, zo, ok0 hO, q85, Nat.reduceEqDiff]
    | true =>
      rw [ha, tr_t] at q85
      obtain ⟨kf, kS⟩ := cell 0 0 (s 4 + nI x.2.1) (by omega) (OS.frd hO (P := fun a k => a = o ∧ k = 0) ((Fr.refl _ _).si ⟨rfl, rfl⟩) (fun a k z => by omega))
      refine ⟨_, head _ ?_, kf, kS, OV.day hV _⟩
      rw [b101_0]
      simp (disch := omega) only [gq_true, gb_true, gb_false, true_and, and_true, eq_self, not_false_eq_true, not_true_eq_false, true_or, or_true, false_or, or_false, false_and, and_false, c0_v, ci_v, cl_v, cf_v, pk_mul, nI_add, nI_clamp, nI_lt0, nI_0le, nI_eq0, nI_lt0r, nI_ltE, nI_leE, nI_eqE, nI_m1, in_t, ba0, ba1, Nat.one_ne_zero, Nat.reduceEqDiff, Nat.reduceLeDiff, Nat.add_eq_zero_iff, xk10 hX, xr10_0 hX, xk11 hX, z11, c0, c1, c2, r1, zo, ok0 hO, q85, ov_day hV, Nat.reduceEqDiff]
      rfl
  rw [if_neg k24]
  by_cases k25 : x.1 = 25
  · rw [if_pos k25]
    have hw : x.2.1 ≤ 999999 := by unfold InG at hx; omega
    rw [w1 (by omega)] at c1
    rw [w2 (by omega)] at c2
    rw [k25] at c0
    obtain ⟨e2, b2⟩ := (wc_na hC).c (by decide)
    have n2 : gi_ m (o + 13) 2 = nI (cN s 2) := (ov_na hV).trans e2
    cases hi : inR (nI x.2.1) (cN s 2) with
    | false =>
      have ge : cN s 2 ≤ x.2.1 := by
        rcases Nat.lt_or_ge x.2.1 (cN s 2) with y | y
        · have := (inR_t (n := cN s 2) (by omega)).mpr ⟨x.2.1, y, rfl⟩
          rw [hi] at this
          cases this
        · exact y
      refine head _ ?_
      rw [b101_0]
      simp (disch := omega) only [gq_true, gb_true, gb_false, true_and, and_true, eq_self, not_false_eq_true, not_true_eq_false, true_or, or_true, false_or, or_false, false_and, and_false, c0_v, ci_v, cl_v, cf_v, pk_mul, nI_add, nI_clamp, nI_lt0, nI_0le, nI_eq0, nI_lt0r, nI_ltE, nI_leE, nI_eqE, nI_m1, in_t, ba0, ba1, Nat.one_ne_zero, Nat.reduceEqDiff, Nat.reduceLeDiff, Nat.add_eq_zero_iff, xk10 hX, xr10_0 hX, xk11 hX, z11, c0, c1, c2, r1, zo, ok0 hO, or0_2 hO, ok13 hO, zo13, n2, ge, Nat.reduceEqDiff]
    | true =>
      obtain ⟨k, k1, k2⟩ := (inR_t (by omega)).mp hi
      have lt : x.2.1 < cN s 2 := by
        have := (nI_eq (a := x.2.1) (b := k) (by omega) (by omega)).mp k2
        omega
      have q86 := x86 (sa := sa) (sv := sv) (d := d + 2) hO hV x.2.1 (by omega) (nI x.2.2)
      cases hc : crv_ s x.2.1 (nI x.2.2) with
      | false =>
        rw [hc, tr_f] at q86
        refine head _ ?_
        rw [b101_0]
        simp (disch := omega) only [gq_true, gb_true, gb_false, true_and, and_true, eq_self, not_false_eq_true, not_true_eq_false, true_or, or_true, false_or, or_false, false_and, and_false, c0_v, ci_v, cl_v, cf_v, pk_mul, nI_add, nI_clamp, nI_lt0, nI_0le, nI_eq0, nI_lt0r, nI_ltE, nI_leE, nI_eqE, nI_m1, in_t, ba0, ba1, Nat.one_ne_zero, Nat.reduceEqDiff, Nat.reduceLeDiff, Nat.add_eq_zero_iff, xk10 hX, xr10_0 hX, xk11 hX, z11, c0, c1, c2, r1, zo, ok0 hO, or0_2 hO, ok13 hO, zo13, n2, eq_false (show ¬ cN s 2 ≤ x.2.1 by omega), q86, Nat.reduceEqDiff]
      | true =>
        rw [hc, tr_t] at q86
        have q128 := x128 (sa := sa) (sv := sv) (d := d + 3) (ot13 hO) (by decide) x.2.1 5 (nI x.2.2) (by omega)
        have q128' : am_ca sa sv (d + 4) 128 [.ref (o + 13), .int (nI x.2.1), .int (nI 5), .int (nI x.2.2)] m = some (.inl none, si_ m (o + 14) (x.2.1 * 6 + 5) (nI x.2.2)) := q128
        obtain ⟨kf, kS⟩ := cell 14 (x.2.1 * 6 + 5) (nI x.2.2) (by omega) (OS.frd hO (P := fun a k => a = o + 14) ((Fr.refl _ _).si rfl) (fun a k z => by omega))
        refine ⟨_, head _ ?_, kf, kS, OV.rev hV x.2.1 _ (by omega)⟩
        rw [b101_0]
        simp (disch := omega) only [gq_true, gb_true, gb_false, true_and, and_true, eq_self, not_false_eq_true, not_true_eq_false, true_or, or_true, false_or, or_false, false_and, and_false, c0_v, ci_v, cl_v, cf_v, pk_mul, nI_add, nI_clamp, nI_lt0, nI_0le, nI_eq0, nI_lt0r, nI_ltE, nI_leE, nI_eqE, nI_m1, in_t, ba0, ba1, Nat.one_ne_zero, Nat.reduceEqDiff, Nat.reduceLeDiff, Nat.add_eq_zero_iff, xk10 hX, xr10_0 hX, xk11 hX, z11, c0, c1, c2, r1, zo, ok0 hO, or0_2 hO, ok13 hO, zo13, n2, eq_false (show ¬ cN s 2 ≤ x.2.1 by omega), q86, q128', Nat.reduceEqDiff]
  rw [if_neg k25]
  by_cases k8 : x.1 = 8
  · rw [if_pos k8]
    have hw : x.2.1 < cN s 0 ∧ x.2.2 ≤ 999999 := by unfold InG at hx; omega
    rw [w1 (by omega)] at c1
    rw [w2 (by omega)] at c2
    rw [k8] at c0
    have q218 := x218 (sa := sa) (sv := sv) (d := d + 3) (m := m) (nI x.2.2)
    cases ha : inR (nI x.2.2) 100000 with
    | false =>
      rw [ha, tr_f] at q218
      refine head _ ?_
      rw [b101_0]
      simp (disch := omega) only [gq_true, gb_true, gb_false, true_and, and_true, eq_self, not_false_eq_true, not_true_eq_false, true_or, or_true, false_or, or_false, false_and, and_false, c0_v, ci_v, cl_v, cf_v, pk_mul, nI_add, nI_clamp, nI_lt0, nI_0le, nI_eq0, nI_lt0r, nI_ltE, nI_leE, nI_eqE, nI_m1, in_t, ba0, ba1, Nat.one_ne_zero, Nat.reduceEqDiff, Nat.reduceLeDiff, Nat.add_eq_zero_iff, xk10 hX, xr10_0 hX, xk11 hX, z11, c0, c1, c2, q218, Nat.reduceEqDiff]
    | true =>
      rw [ha, tr_t] at q218
      have q15 := x15 (sa := sa) (sv := sv) (d := d + 2) hO hV hC x.2.1 hw.1 (nI x.2.2)
      obtain ⟨kf, kS⟩ := cell 3 x.2.1 (nI x.2.2) (by omega) (OS.frd hO (P := fun a k => a = o + 3) ((Fr.refl _ _).si rfl) (fun a k z => by omega))
      refine ⟨_, head _ ?_, kf, kS, OV.lea hV x.2.1 _ (by omega)⟩
      rw [b101_0]
      simp (disch := omega) only [gq_true, gb_true, gb_false, true_and, and_true, eq_self, not_false_eq_true, not_true_eq_false, true_or, or_true, false_or, or_false, false_and, and_false, c0_v, ci_v, cl_v, cf_v, pk_mul, nI_add, nI_clamp, nI_lt0, nI_0le, nI_eq0, nI_lt0r, nI_ltE, nI_leE, nI_eqE, nI_m1, in_t, ba0, ba1, Nat.one_ne_zero, Nat.reduceEqDiff, Nat.reduceLeDiff, Nat.add_eq_zero_iff, xk10 hX, xr10_0 hX, xk11 hX, z11, c0, c1, c2, q218, r1, zo, ok0 hO, or0_1 hO, ok1 hO, zo1, q15, Nat.reduceEqDiff]
  rw [if_neg k8]
  have k26 : x.1 = 26 := by unfold InG at hx; omega
  rw [k26] at c0
  obtain ⟨m1, b1, b2, b3, b4⟩ := x87 (sa := sa) (sv := sv) (d := d) hO hV hF hB
  obtain ⟨kf, kS⟩ := keep b2 (fun a k z => Or.inr z) (hX.frO b2 h1 h2 (fun a k z => z)) b3
  refine ⟨m1, head _ ?_, kf, kS, b4⟩
  rw [b101_0]
  simp (disch := omega) only [gq_true, gb_true, gb_false, true_and, and_true, eq_self, not_false_eq_true, not_true_eq_false, true_or, or_true, false_or, or_false, false_and, and_false, c0_v, ci_v, cl_v, cf_v, pk_mul, nI_add, nI_clamp, nI_lt0, nI_0le, nI_eq0, nI_lt0r, nI_ltE, nI_leE, nI_eqE, nI_m1, in_t, ba0, ba1, Nat.one_ne_zero, Nat.reduceEqDiff, Nat.reduceLeDiff, Nat.add_eq_zero_iff, xk10 hX, xr10_0 hX, xk11 hX, z11, c0, c1, c2, r1, zo, ok0 hO, b1, cl_v, Nat.reduceEqDiff]
end R89
