/-! closes whole -/
section J8
variable {sa sv d N x b B p : Nat} {m M : am_M} {ow : Nat → Nat} {X : TX} {s : Nat → Int32} {q : Nat → Int64}
theorem x300_62 (h : JT sa m sv N x ow B X s q) (hl : LM s q) (hs : X.s = cS_ s) (hq : X.q = cQ_ s q) (l3 : Int64) : r300 sa sv (d + 5) 62 [some (.ref N), some (.ref x), some (.int (nI (pay_ s q (cN s 0)))), some (.long l3), none, some (.int (nI 0))] [] m = r300 sa sv (d + 5) 62 [some (.ref N), some (.ref x), some (.int (nI (pay_ s q (cN s 0)))), some (.long l3), none, some (.int (nI (cN s 0)))] [] m := by
  obtain ⟨e0, b0⟩ := (wc_np h.wc).c (by decide)
  have hp5 := hl.p
  have hs0 : X.s 0 = s 0 := by rw [hs]; rfl
  have c0 : cN X.s 0 = cN s 0 := congrArg Int32.toNatClampNeg hs0
  rw [c0] at e0
  have hnp : gi_ m x 0 = nI (cN s 0) := h.ws.np.trans (hs0.symm.trans e0)
  have p32 : pay_ s q (cN s 0) < 32 := Nat.lt_of_lt_of_le (pay_lt _) (Nat.pow_le_pow_right (by decide) hp5.2)
  have h7 : 0 < cN X.s 7 := by
    have e7 : X.s 7 = nI (min (cN s 5 + 1) 5) := by rw [hs]; rfl
    show 0 < (X.s 7).toNatClampNeg
    rw [e7, nI_N (by omega)]; omega
  exact lp_up (fun i => r300 sa sv (d + 5) 62 [some (.ref N), some (.ref x), some (.int (nI (pay_ s q (cN s 0)))), some (.long l3), none, some (.int (nI i))] [] m) (cN s 0) (fun i hi => by
    have eb := (bit32 _ p32 i (by omega)).trans (by rw [pay_bit _ _ _ _ hi])
    have hi' : i < cN X.s 0 := by omega
    have q0 := h.cur (sa := sa) (d := d + 2) hi' (show 0 < 3 by decide)
    have qb := h.bal (sa := sa) (d := d + 2) hi'
    have q4 := h.stt (sa := sa) (d := d + 2) h7 hi' (show 4 < 5 by decide)
    have q3 := h.stt (sa := sa) (d := d + 2) h7 hi' (show 3 < 5 by decide)
    rw [hq, cQ_c (by omega) (by decide)] at q0
    rw [hq, cQ_b (by omega)] at qb
    rw [hq, cQ_s (by omega) (by decide)] at q3 q4
    have n4 : nv_ s q i 4 = q i - pd_ s q i := rfl
    have n3 : nv_ s q i 3 = pd_ s q i := rfl
    rw [n4] at q4
    rw [n3] at q3
    rw [b300_62, gq_pos h.ws.k, hnp, gb_neg (by rw [nI_leE (by omega) (by omega)]; omega)]
    cases hb : paid_ s q i with
    | true =>
      have e : q i - q i = 0 := Int64.sub_self _
      have e2 := hb
      rw [pd_t hi hb] at qb q3 q4
      rw [e] at qb q4
      have pos : 0 < q i := (of_decide_eq_true hb).1
      rw [gb_pos (eb.mpr hb), gq_pos h.k0, qb, cl_v, gb_pos ((lgc_eq _ _).mpr rfl), b300_92, gq_pos h.k0, q0, cl_v, gb_pos ((lgc_eq _ _).mpr rfl), gq_pos h.k0, q4, cl_v, gq_pos h.k0, qb, cl_v, gb_pos ((lgc_eq _ _).mpr rfl), gb_pos (eb.mpr hb), b300_139, gq_pos h.k0, q3, cl_v, gb_neg (by rw [lgc_le]; exact Int64.not_le.mpr pos), gb_pos rfl, nI_add]
    | false =>
      have no : ¬ ((nI (pay_ s q (cN s 0)) >>> (nI i &&& 31)) &&& nI 1) = nI 1 := fun z => by have := eb.mp z; rw [hb] at this; exact Bool.noConfusion this
      rw [pd_f hb] at qb q3 q4
      rw [gb_neg no, b300_92, gq_pos h.k0, q0, cl_v, gb_pos ((lgc_eq _ _).mpr rfl), gq_pos h.k0, q4, cl_v, gq_pos h.k0, qb, cl_v, gb_pos ((lgc_eq _ _).mpr rfl), gb_neg no, b300_139, gq_pos h.k0, q3, cl_v, gb_pos (by rw [lgc_le]; exact Int64.le_refl _), gb_pos rfl, nI_add])
theorem JT.re (h : JT sa m sv N x ow B X s q) (es : X.s = s) (eq : X.q = q) : JT sa m sv N x ow B X X.s X.q := by
  rw [es, eq]; exact h
/-- undoing twice -/
theorem un2 {X1 : TX} (hu : 1 ≤ X1.u) (s : Nat → Int32) (q : Nat → Int64) : 1 ≤ (unX (X1.rem.wS s q)).u ∧ (unX (unX (X1.rem.wS s q))).s = (unX X1).s ∧ (unX (unX (X1.rem.wS s q))).q = (unX X1).q := by
  have eY : unX (X1.rem.wS s q) = ((X1.rem.wS s q).wS ((X1.rem.wS s q).ps (min X1.u 4 + 1 - 1)) ((X1.rem.wS s q).pq (min X1.u 4 + 1 - 1))).wH (min X1.u 4 + 1 - 1) (X1.rem.wS s q).ps (X1.rem.wS s q).pq := by
    show (if min X1.u 4 + 1 = 0 then _ else _) = _
    rw [if_neg (by omega)]; rfl
  have eu : (unX (X1.rem.wS s q)).u = min X1.u 4 := by rw [eY]; rfl
  refine ⟨by omega, ?_, ?_⟩
  · have e1 : (unX (unX (X1.rem.wS s q))).s = (unX (X1.rem.wS s q)).ps (min X1.u 4 - 1) := by
      generalize hY : unX (X1.rem.wS s q) = Y at eu ⊢
      unfold unX
      rw [eu, if_neg (by omega)]; rfl
    have e2 : (unX X1).s = X1.ps (X1.u - 1) := by
      unfold unX
      rw [if_neg (by omega)]; rfl
    rw [e1, e2, eY]
    show (if min X1.u 4 - 1 < min X1.u 4 then X1.ps (min X1.u 4 - 1 + (X1.u - min X1.u 4)) else X1.s) = _
    rw [if_pos (by omega), show min X1.u 4 - 1 + (X1.u - min X1.u 4) = X1.u - 1 by omega]
  · have e1 : (unX (unX (X1.rem.wS s q))).q = (unX (X1.rem.wS s q)).pq (min X1.u 4 - 1) := by
      generalize hY : unX (X1.rem.wS s q) = Y at eu ⊢
      unfold unX
      rw [eu, if_neg (by omega)]; rfl
    have e2 : (unX X1).q = X1.pq (X1.u - 1) := by
      unfold unX
      rw [if_neg (by omega)]; rfl
    rw [e1, e2, eY]
    show (if min X1.u 4 - 1 < min X1.u 4 then X1.pq (min X1.u 4 - 1 + (X1.u - min X1.u 4)) else X1.q) = _
    rw [if_pos (by omega), show min X1.u 4 - 1 + (X1.u - min X1.u 4) = X1.u - 1 by omega]
theorem x300 (h : JT sa m sv N x ow B X X.s X.q) (hl : LM X.s X.q) (hB : B + 2 < 2 ^ 20) : ∃ m', am_ca sa sv (d + 6) 300 [.ref N, .ref x] m = some (.inl (some (.int (nI 1))), m') ∧ Ex (fun _ => True) 0 0 m m' := by
  obtain ⟨e0, b0⟩ := (wc_np h.wc).c (by decide)
  have hp5 := hl.p
  have hnp : ∀ m' X' B', JT sa m' sv N x ow B' X' X.s X.q → gi_ m' x 0 = nI (cN X.s 0) := fun m' X' B' j => j.ws.np.trans e0
  have hZ : ∀ p, cN X.s 0 ≤ p → p < 10 → X.q p = 0 := fun p h1 h2 => (wf_z h.wf).1 p h1 h2
  obtain ⟨M1, e1, j1, f1⟩ := h.clo (sa := sa) (d := d) hl (by omega)
  have j1p := j1.pay (sa := sa) (d := d + 1)
  have hno : ∀ p, p < 10 → paid_ (cS_ X.s) (cQ_ X.s X.q) p = false := fun p hp => paid_c hZ hp
  have c0 : cN (X.rem.wS (cS_ X.s) (cQ_ X.s X.q)).s 0 = cN X.s 0 := rfl
  have ep : pay_ (X.rem.wS (cS_ X.s) (cQ_ X.s X.q)).s (X.rem.wS (cS_ X.s) (cQ_ X.s X.q)).q (cN (X.rem.wS (cS_ X.s) (cQ_ X.s X.q)).s 0) = 0 := pay_0 hno _ (by rw [c0]; omega)
  rw [ep] at j1p
  obtain ⟨M2, e2, j2, f2⟩ := j1.clo (sa := sa) (d := d) hl (by omega)
  have es : spd_ (X.rem.wS (cS_ X.s) (cQ_ X.s X.q)).s (X.rem.wS (cS_ X.s) (cQ_ X.s X.q)).q 10 = 0 := spd_0 hno 10 (Nat.le_refl _)
  rw [es] at e2
  obtain ⟨r1, r2, r3⟩ := rem_u X (cS_ X.s) (cQ_ X.s X.q)
  obtain ⟨t1, t2, t3⟩ := un2 r1 (cS_ (X.rem.wS (cS_ X.s) (cQ_ X.s X.q)).s) (cQ_ (X.rem.wS (cS_ X.s) (cQ_ X.s X.q)).s (X.rem.wS (cS_ X.s) (cQ_ X.s X.q)).q)
  have r1' := (rem_u (X.rem.wS (cS_ X.s) (cQ_ X.s X.q)) (cS_ (X.rem.wS (cS_ X.s) (cQ_ X.s X.q)).s) (cQ_ (X.rem.wS (cS_ X.s) (cQ_ X.s X.q)).s (X.rem.wS (cS_ X.s) (cQ_ X.s X.q)).q)).1
  obtain ⟨M3, e3, j3, f3⟩ := j2.undo (sa := sa) (d := d + 4) hl r1'
  obtain ⟨M4, e4, j4, f4⟩ := j3.undo (sa := sa) (d := d + 4) hl t1
  have j5 := j4.re (t2.trans r2) (t3.trans r3)
  have u2 := j2.tc.u5
  have u3 := j3.tc.u5
  refine ⟨M4, ?_, Ex.of (((f1.trans f2).trans f3).trans f4) fun _ _ _ => trivial⟩
  rw [c300, b300_0, gq_pos h.k0, h.pay (d := d + 1), ci_v]
  refine (x300_10 h hl).trans ?_
  rw [b300_10, gq_pos h.ws.k, hnp _ _ _ h, gb_pos (Int32.le_refl _), gq_pos h.k0, e1, cl_v, gb_pos ((lgc_eq _ _).mpr (spd_n (by omega)))]
  refine (x300_62 j1 hl rfl rfl _).trans ?_
  rw [b300_62, gq_pos j1.ws.k, hnp _ _ _ j1, gb_pos (Int32.le_refl _), gq_pos j1.k0, j1p, ci_v, gb_pos nI_0, gq_pos j1.k0, e2, cl_v, gb_pos ((lgc_eq _ _).mpr rfl), gq_pos j2.k0, e3, ci_v, gb_neg (by rw [nI_lt0 (by omega)]; exact fun z => z), gq_pos j3.k0, e4, ci_v, gb_neg (by rw [nI_lt0 (by omega)]; exact fun z => z), x295 (d := d) j5, ci_v, gb_neg (by decide), gq_pos (by decide)]
end J8
