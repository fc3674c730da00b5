/-! a split more, a source more: the class -/
def splU (s : Nat → Int32) (w n day : Nat) (L : List (Nat × Nat)) (k : Nat) : Int32 := if k = 18 + 48 * w then nI (n + 1) else if k = 19 + 48 * w + n then nI day else if k = 23 + 48 * w + n then nI L.length else if 27 + 48 * w + 4 * n ≤ k ∧ k < 27 + 48 * w + 4 * n + L.length then nI (L.getD (k - (27 + 48 * w + 4 * n)) (0, 0)).1 else if 43 + 48 * w + 4 * n ≤ k ∧ k < 43 + 48 * w + 4 * n + L.length then nI (L.getD (k - (43 + 48 * w + 4 * n)) (0, 0)).2 else s k
def srcU (s : Nat → Int32) (w n so pc : Nat) (k : Nat) : Int32 := if k = 59 + 48 * w then nI (n + 1) else if k = 60 + 48 * w + n then nI so else if k = 63 + 48 * w + n then nI pc else s k
theorem getD_some {α : Type} {L : List α} {j : Nat} {x z : α} (h : L[j]? = some x) : L.getD j z = x := by
  rw [List.getD_eq_getElem?_getD, h]; rfl
section P83
variable {sa sv d N o B : Nat} {m : am_M} {s : Nat → Int32} {q : Nat → Int64} {L : List (Nat × Nat)}
theorem x4r (hO : OS m o) (nw w : Nat) (hn : nw ≤ 12) (hw : w < nw) (e : gi_ m (o + 1) 1 = nI nw) : am_ca sa sv (d + 1) 4 [.ref (o + 1), .int (nI w)] m = some (.inl (some (.int (nI 1))), m) := by
  rw [c4, b4_0]
  simp (disch := omega) only [gq_true, gb_true, gb_false, true_and, and_true, eq_self, not_false_eq_true, not_true_eq_false, true_or, or_true, false_or, or_false, false_and, and_false, c0_v, ci_v, cl_v, cf_v, pk_mul, nI_add, nI_clamp, nI_lt0, nI_0le, nI_eq0, nI_lt0r, nI_ltE, nI_leE, nI_eqE, nI_m1, in_t, ba0, ba1, Nat.one_ne_zero, Nat.reduceEqDiff, Nat.reduceLeDiff, Nat.add_eq_zero_iff, ok1 hO, e]
  (simp only [gb_ite]; (repeat' split); all_goals first | rfl | (exfalso; omega))
def SPc (o w n a k : Nat) : Prop := (a = o + 6 ∧ k = w) ∨ (a = o + 10 ∧ (k = (w * 4 + n) * 2 ∨ k = (w * 4 + n) * 2 + 1)) ∨ (a = o + 12 ∧ ((w * 4 + n) * 4) * 2 ≤ k ∧ k < ((w * 4 + n) * 4 + 4) * 2)
theorem x11 (hX : XS m N) (hO : OS m o) (hV : OV m o s q) (ho1 : N + 27 ≤ o) (ho2 : o + 27 ≤ N + 243) (h6 : cN s 6 < 65) (h7 : cN s 7 ≤ 5) (nw w n day : Nat) (hnw : nw ≤ 12) (hw : w < nw) (h1 : s 1 = nI nw) (hn4 : n < 4) (hn : s (18 + 48 * w) = nI n) (hH : CH m N L) : ∃ m', am_ca sa sv (d + 3) 11 [.ref (o + 1), .int (nI w), .int (nI day), .ref (N + 8)] m = some (.inl none, m') ∧ Fr (OC o) m m' ∧ OS m' o ∧ OV m' o (splU s w n day L) q := by
  obtain ⟨t1, t2, t3⟩ := hH
  have hw1 : gi_ m (o + 1) 1 = nI nw := (ov_nw hV).trans h1
  have hn1 : gi_ m (o + 6) w = nI n := (ov_sp hV w (by omega)).trans hn
  have p1 := x128 (sa := sa) (sv := sv) (d := d + 1) (ot9 hO) (by decide) (w * 4 + n) 0 (nI day) (by omega)
  rw [show o + 9 + 1 = o + 10 from rfl, show (w * 4 + n) * 2 + 0 = (w * 4 + n) * 2 from rfl] at p1
  have hF1 : Fr (SPc o w n) m (si_ m (o + 10) ((w * 4 + n) * 2) (nI day)) := (Fr.refl _ _).si (Or.inr (Or.inl ⟨rfl, Or.inl rfl⟩))
  have hO1 := hO.frd hF1 (fun a k z => by unfold SPc at z; omega)
  have v1 : gi_ (si_ m (o + 10) ((w * 4 + n) * 2) (nI day)) (o + 10) ((w * 4 + n) * 2) = nI day := by rw [gi_si, if_pos ⟨rfl, rfl⟩]
  have k8 : gi_ (si_ m (o + 10) ((w * 4 + n) * 2) (nI day)) (N + 8) 2 = nI L.length := by rw [gi_si, if_neg (by omega)]; exact t1
  have x8 : gk_ (si_ m (o + 10) ((w * 4 + n) * 2) (nI day)) (N + 8) = (1, 8) := by show gk_ m (N + 8) = _; exact xk8 hX
  have run1 : am_ca sa sv (d + 3) 11 [.ref (o + 1), .int (nI w), .int (nI day), .ref (N + 8)] m = r11 sa sv (d + 2) 58 [some (.ref (o + 1)), some (.int (nI w)), some (.int (nI day)), some (.ref (N + 8)), some (.int (nI (w * 4 + n))), some (.int (nI 0))] [] (si_ (si_ m (o + 10) ((w * 4 + n) * 2) (nI day)) (o + 10) ((w * 4 + n) * 2 + 1) (nI L.length)) := by
    have p2 := x128 (sa := sa) (sv := sv) (d := d + 1) (ot9 hO1) (by decide) (w * 4 + n) 1 (nI L.length) (by omega)
    rw [show o + 9 + 1 = o + 10 from rfl] at p2
    rw [c11, b11_0, x4r hO nw w hnw hw hw1]
    simp (disch := omega) only [gq_true, gb_true, gb_false, true_and, and_true, eq_self, not_false_eq_true, not_true_eq_false, true_or, or_true, false_or, or_false, false_and, and_false, c0_v, ci_v, cl_v, cf_v, pk_mul, nI_add, nI_clamp, nI_lt0, nI_0le, nI_eq0, nI_lt0r, nI_ltE, nI_leE, nI_eqE, nI_m1, in_t, ba0, ba1, Nat.one_ne_zero, Nat.reduceEqDiff, Nat.reduceLeDiff, Nat.add_eq_zero_iff, ok1 hO, or1_6 hO, ok6 hO, hn1, eq_false (show ¬ 4 ≤ n by omega), or1_8 hO, ok9 hO, p1, ok1 hO1, or1_8 hO1, x8, k8, ok9 hO1, p2]
  have hF2 : Fr (SPc o w n) m (si_ (si_ m (o + 10) ((w * 4 + n) * 2) (nI day)) (o + 10) ((w * 4 + n) * 2 + 1) (nI L.length)) := hF1.si (Or.inr (Or.inl ⟨rfl, Or.inr rfl⟩))
  have v2a : gi_ (si_ (si_ m (o + 10) ((w * 4 + n) * 2) (nI day)) (o + 10) ((w * 4 + n) * 2 + 1) (nI L.length)) (o + 10) ((w * 4 + n) * 2) = nI day := by rw [gi_si, if_neg (by omega)]; exact v1
  have v2b : gi_ (si_ (si_ m (o + 10) ((w * 4 + n) * 2) (nI day)) (o + 10) ((w * 4 + n) * 2 + 1) (nI L.length)) (o + 10) ((w * 4 + n) * 2 + 1) = nI L.length := by rw [gi_si, if_pos ⟨rfl, rfl⟩]
  have hF2b : ∀ a k, ¬ a = o + 10 → gi_ (si_ (si_ m (o + 10) ((w * 4 + n) * 2) (nI day)) (o + 10) ((w * 4 + n) * 2 + 1) (nI L.length)) a k = gi_ m a k := fun a k h => by rw [gi_si, if_neg (fun z => h z.1), gi_si, if_neg (fun z => h z.1)]
  have hn2 : gi_ (si_ (si_ m (o + 10) ((w * 4 + n) * 2) (nI day)) (o + 10) ((w * 4 + n) * 2 + 1) (nI L.length)) (o + 6) w = nI n := by rw [hF2b _ _ (by omega)]; exact hn1
  generalize si_ (si_ m (o + 10) ((w * 4 + n) * 2) (nI day)) (o + 10) ((w * 4 + n) * 2 + 1) (nI L.length) = m2 at *
  have hX2 : ∀ {M}, Fr (SPc o w n) m M → gk_ M (N + 8) = (1, 8) := fun h => (congrFun h.1.1 _).trans (xk8 hX)
  have frC : ∀ {M} (a k : Nat), Fr (SPc o w n) m M → a < N + 27 → gi_ M a k = gi_ m a k := fun a k h ha => h.2.1 _ _ (by unfold SPc; omega)
  obtain ⟨m3, g1, g2, g3, g4, g5⟩ := lp_inv (fun i M => r11 sa sv (d + 2) 58 [some (.ref (o + 1)), some (.int (nI w)), some (.int (nI day)), some (.ref (N + 8)), some (.int (nI (w * 4 + n))), some (.int (nI i))] [] M) (fun i M => Fr (SPc o w n) m M ∧ (∀ k, gi_ M (o + 10) k = gi_ m2 (o + 10) k) ∧ gi_ M (o + 6) w = nI n ∧ ∀ j c, j < 4 → c < 2 → gi_ M (o + 12) (((w * 4 + n) * 4 + j) * 2 + c) = if j < i then nI (if c = 0 then (L.getD j (0, 0)).1 else (L.getD j (0, 0)).2) else gi_ m (o + 12) (((w * 4 + n) * 4 + j) * 2 + c)) L.length (fun i M hi ⟨f1, f2, f3, f4⟩ => by
    have hOM := hO.frd f1 (fun a k z => by unfold SPc at z; omega)
    have hXM := hX.frO (f1.mono (P' := fun a _ => OA o a) fun a k z => by unfold SPc at z; unfold OA; omega) ho1 ho2 (fun a k z => z)
    have hx : L[i]? = some L[i] := List.getElem?_eq_getElem (by omega)
    generalize L[i] = x at hx
    obtain ⟨a1, a2, a3, a4⟩ := t3 i x hx
    have q0 := tb_at (sa := sa) (sv := sv) (d := d + 1) (xt8 hXM) (by decide) i 0 (by omega)
    rw [show N + 8 + 1 = N + 9 from rfl, frC _ _ f1 (by omega), show i * 2 + 0 = i * 2 from rfl, a3] at q0
    have p1 := x128 (sa := sa) (sv := sv) (d := d + 1) (ot11 hOM) (by decide) ((w * 4 + n) * 4 + i) 0 (nI x.1) (by omega)
    rw [show o + 11 + 1 = o + 12 from rfl, show ((w * 4 + n) * 4 + i) * 2 + 0 = ((w * 4 + n) * 4 + i) * 2 from rfl] at p1
    have f1' : Fr (SPc o w n) m (si_ M (o + 12) (((w * 4 + n) * 4 + i) * 2) (nI x.1)) := f1.si (Or.inr (Or.inr ⟨rfl, by omega, by omega⟩))
    have hOM' := hO.frd f1' (fun a k z => by unfold SPc at z; omega)
    have hXM' := hX.frO (f1'.mono (P' := fun a _ => OA o a) fun a k z => by unfold SPc at z; unfold OA; omega) ho1 ho2 (fun a k z => z)
    have q1 := tb_at (sa := sa) (sv := sv) (d := d + 1) (xt8 hXM') (by decide) i 1 (by omega)
    rw [show N + 8 + 1 = N + 9 from rfl, frC _ _ f1' (by omega), a4] at q1
    have p2 := x128 (sa := sa) (sv := sv) (d := d + 1) (ot11 hOM') (by decide) ((w * 4 + n) * 4 + i) 1 (nI x.2) (by omega)
    rw [show o + 11 + 1 = o + 12 from rfl] at p2
    refine ⟨si_ (si_ M (o + 12) (((w * 4 + n) * 4 + i) * 2) (nI x.1)) (o + 12) (((w * 4 + n) * 4 + i) * 2 + 1) (nI x.2), ?_, f1'.si (Or.inr (Or.inr ⟨rfl, by omega, by omega⟩)), fun k => by rw [gi_si, if_neg (by omega), gi_si, if_neg (by omega)]; exact f2 k, by rw [gi_si, if_neg (by omega), gi_si, if_neg (by omega)]; exact f3, fun j c hj hc => ?_⟩
    · show r11 sa sv (d + 2) 58 _ [] M = _
      rw [b11_58]
      simp (disch := omega) only [gq_true, gb_true, gb_false, true_and, and_true, eq_self, not_false_eq_true, not_true_eq_false, true_or, or_true, false_or, or_false, false_and, and_false, c0_v, ci_v, cl_v, cf_v, pk_mul, nI_add, nI_clamp, nI_lt0, nI_0le, nI_eq0, nI_lt0r, nI_ltE, nI_leE, nI_eqE, nI_m1, in_t, ba0, ba1, Nat.one_ne_zero, Nat.reduceEqDiff, Nat.reduceLeDiff, Nat.add_eq_zero_iff, hX2 f1, frC (N + 8) 2 f1 (by omega), t1, eq_false (show ¬ L.length ≤ i by omega), eq_false (show ¬ 4 ≤ i by omega), ok1 hOM, or1_9 hOM, q0, ok11 hOM, p1, ok1 hOM', or1_9 hOM', hX2 f1', q1, ok11 hOM', p2]
    · rw [gi_si, gi_si, f4 j c hj hc]
      by_cases e : j = i
      · subst e
        rw [getD_some hx]
        by_cases ec : c = 0
        · subst ec
          rw [if_neg (by omega), if_pos ⟨rfl, rfl⟩, if_pos (by omega), if_pos rfl]
        · obtain rfl : c = 1 := by omega
          rw [if_pos ⟨rfl, rfl⟩, if_pos (by omega), if_neg (by omega)]
      · rw [if_neg (by omega), if_neg (by omega)]
        by_cases e2 : j < i
        · rw [if_pos e2, if_pos (show j < i + 1 by omega)]
        · rw [if_neg e2, if_neg (show ¬ j < i + 1 by omega)]) m2 ⟨hF2, fun _ => rfl, hn2, fun j c hj hc => by rw [if_neg (by omega)]; exact hF2b _ _ (by omega)⟩
  have hO3 := hO.frd g2 (fun a k z => by unfold SPc at z; omega)
  have hF4 : Fr (SPc o w n) m (si_ m3 (o + 6) w (nI (n + 1))) := g2.si (Or.inl ⟨rfl, rfl⟩)
  have r6 : gi_ (si_ m3 (o + 6) w (nI (n + 1))) (o + 6) w = nI (n + 1) := by rw [gi_si, if_pos ⟨rfl, rfl⟩]
  have r10 : ∀ k, gi_ (si_ m3 (o + 6) w (nI (n + 1))) (o + 10) k = gi_ m2 (o + 10) k := fun k => by rw [gi_si, if_neg (by omega)]; exact g3 k
  have r12 : ∀ j c, j < 4 → c < 2 → gi_ (si_ m3 (o + 6) w (nI (n + 1))) (o + 12) (((w * 4 + n) * 4 + j) * 2 + c) = if j < L.length then nI (if c = 0 then (L.getD j (0, 0)).1 else (L.getD j (0, 0)).2) else gi_ m (o + 12) (((w * 4 + n) * 4 + j) * 2 + c) := fun j c hj hc => by rw [gi_si, if_neg (by omega)]; exact g5 j c hj hc
  refine ⟨si_ m3 (o + 6) w (nI (n + 1)), ?_, hF4.mono fun a k z => by unfold SPc at z; unfold OC OA; omega, hO.frd hF4 (fun a k z => by unfold SPc at z; omega), ?_⟩
  · refine run1.trans (g1.trans ?_)
    show r11 sa sv (d + 2) 58 _ [] m3 = _
    rw [b11_58]
    simp (disch := omega) only [gq_true, gb_true, gb_false, true_and, and_true, eq_self, not_false_eq_true, not_true_eq_false, true_or, or_true, false_or, or_false, false_and, and_false, c0_v, ci_v, cl_v, cf_v, pk_mul, nI_add, nI_clamp, nI_lt0, nI_0le, nI_eq0, nI_lt0r, nI_ltE, nI_leE, nI_eqE, nI_m1, in_t, ba0, ba1, Nat.one_ne_zero, Nat.reduceEqDiff, Nat.reduceLeDiff, Nat.add_eq_zero_iff, hX2 g2, frC (N + 8) 2 g2 (by omega), t1, Nat.le_refl, ok1 hO3, or1_6 hO3, ok6 hO3, g4]
  generalize si_ m3 (o + 6) w (nI (n + 1)) = m' at *
  have nI : ∀ a k, ¬ ((a = o + 6 ∧ k = w) ∨ a = o + 10 ∨ a = o + 12) → gi_ m' a k = gi_ m a k := fun a k z => hF4.2.1 _ _ (by unfold SPc; omega)
  have nL : ∀ a k, ¬ (a = o + 6 ∨ a = o + 10 ∨ a = o + 12) → gl_ m' a k = gl_ m a k := fun a k z => hF4.2.2.1 _ _ (by unfold SPc; omega)
  have hs : ∀ k, (k < 18 ∨ 594 ≤ k ∨ k < 18 + 48 * w ∨ 66 + 48 * w ≤ k ∨ (59 + 48 * w ≤ k ∧ k < 66 + 48 * w)) → splU s w n day L k = s k := fun k z => by
    have := t2
    unfold splU
    rw [if_neg (by omega), if_neg (by omega), if_neg (by omega), if_neg (by omega), if_neg (by omega)]
  have e5 : cN (splU s w n day L) 5 = cN s 5 := cN_cg (hs _ (by omega))
  have e6 : cN (splU s w n day L) 6 = cN s 6 := cN_cg (hs _ (by omega))
  have e7 : cN (splU s w n day L) 7 = cN s 7 := cN_cg (hs _ (by omega))
  have t2' := t2
  obtain ⟨a1_, a2_, a3_, a4_, a5_, a6_, a7_, a8_, a9_, v1_, v2_, v3_, v4_, v5_, v6_, v7_, v8_, v9_, c1_, c2_, c3_, c4_, c5_, c6_, c7_, c8_, c9_, w1_⟩ := hV
  refine ⟨?_, ?_, ?_, fun k h => ?_, fun k h => ?_, fun k h => ?_, fun k h => ?_, fun k h => ?_, fun w_ i h1 h2 => ?_, fun w_ i h1 h2 => ?_, fun w_ k h1 h2 => ?_, fun w_ k h1 h2 => ?_, fun w_ k j h1 h2 h3 => ?_, fun w_ k j h1 h2 h3 => ?_, ?_, fun a c h1 h2 => ?_, ?_, fun a c h1 h2 => ?_, ?_, fun a c h1 h2 => ?_, ?_, fun p h1 => ?_, fun p c h1 h2 => ?_, fun p c h1 h2 => ?_, fun p w_ h1 h2 => ?_, fun w_ h1 => ?_, fun i p c h1 h2 h3 => ?_, fun i h1 => ?_⟩
  · rw [nI _ _ (by omega), hs _ (by omega)]; exact a1_ 
  · rw [nI _ _ (by omega), hs _ (by omega)]; exact a2_ 
  · rw [nI _ _ (by omega), hs _ (by omega)]; exact a3_ 
  · rw [nL _ _ (by omega)]; exact a4_ k h
  · rw [nI _ _ (by omega), hs _ (by omega)]; exact a5_ k h
  · rw [nL _ _ (by omega)]; exact a6_ k h
  · rw [nI _ _ (by omega), hs _ (by omega)]; exact a7_ k h
  · by_cases e : k = w
    · rw [e, r6]; unfold splU; rw [if_pos rfl]
    · rw [nI _ _ (by omega), a8_ k h]; unfold splU; rw [if_neg (by omega), if_neg (by omega), if_neg (by omega), if_neg (by omega), if_neg (by omega)]
  · rw [nI _ _ (by omega), hs _ (by omega)]; exact a9_ w_ i h1 h2
  · rw [nI _ _ (by omega), hs _ (by omega)]; exact v1_ w_ i h1 h2
  · rw [r10]
    by_cases e : w_ = w ∧ k = n
    · obtain ⟨rfl, rfl⟩ := e
      rw [v2a]; unfold splU; rw [if_neg (by omega), if_pos rfl]
    · rw [hF2.2.1 _ _ (by unfold SPc; omega), v2_ w_ k h1 h2]; unfold splU; rw [if_neg (by omega), if_neg (by omega), if_neg (by omega), if_neg (by omega), if_neg (by omega)]
  · rw [r10]
    by_cases e : w_ = w ∧ k = n
    · obtain ⟨rfl, rfl⟩ := e
      rw [v2b]; unfold splU; rw [if_neg (by omega), if_neg (by omega), if_pos rfl]
    · rw [hF2.2.1 _ _ (by unfold SPc; omega), v3_ w_ k h1 h2]; unfold splU; rw [if_neg (by omega), if_neg (by omega), if_neg (by omega), if_neg (by omega), if_neg (by omega)]
  · by_cases e : w_ = w ∧ k = n
    · obtain ⟨rfl, rfl⟩ := e
      have := r12 j 0 h3 (by omega)
      rw [show ((w_ * 4 + k) * 4 + j) * 2 + 0 = ((w_ * 4 + k) * 4 + j) * 2 from rfl] at this
      rw [this]
      unfold splU
      by_cases e2 : j < L.length
      · rw [if_pos e2, if_pos rfl, if_neg (by omega), if_neg (by omega), if_neg (by omega), if_pos (by omega), show 27 + 48 * w_ + 4 * k + j - (27 + 48 * w_ + 4 * k) = j by omega]
      · rw [if_neg e2, if_neg (by omega), if_neg (by omega), if_neg (by omega), if_neg (by omega), if_neg (by omega)]; exact v4_ w_ k j h1 h2 h3
    · rw [hF4.2.1 _ _ (by unfold SPc; omega), v4_ w_ k j h1 h2 h3]; unfold splU; rw [if_neg (by omega), if_neg (by omega), if_neg (by omega), if_neg (by omega), if_neg (by omega)]
  · by_cases e : w_ = w ∧ k = n
    · obtain ⟨rfl, rfl⟩ := e
      have := r12 j 1 h3 (by omega)
      rw [this]
      unfold splU
      by_cases e2 : j < L.length
      · rw [if_pos e2, if_neg (by omega), if_neg (by omega), if_neg (by omega), if_neg (by omega), if_neg (by omega), if_pos (by omega), show 43 + 48 * w_ + 4 * k + j - (43 + 48 * w_ + 4 * k) = j by omega]
      · rw [if_neg e2, if_neg (by omega), if_neg (by omega), if_neg (by omega), if_neg (by omega), if_neg (by omega)]; exact v5_ w_ k j h1 h2 h3
    · rw [hF4.2.1 _ _ (by unfold SPc; omega), v5_ w_ k j h1 h2 h3]; unfold splU; rw [if_neg (by omega), if_neg (by omega), if_neg (by omega), if_neg (by omega), if_neg (by omega)]
  · rw [nI _ _ (by omega), hs _ (by omega)]; exact v6_ 
  · rw [nI _ _ (by omega), hs _ (by omega)]; exact v7_ a c h1 h2
  · rw [nI _ _ (by omega), hs _ (by omega)]; exact v8_ 
  · rw [nI _ _ (by omega), hs _ (by omega)]; exact v9_ a c h1 h2
  · rw [nI _ _ (by omega), hs _ (by omega)]; exact c1_ 
  · rw [e6] at h1
    rw [nI _ _ (by omega), hs _ (by omega)]; exact c2_ a c h1 h2
  · rw [nI _ _ (by omega), hs _ (by omega)]; exact c3_ 
  · rw [nL _ _ (by omega)]; exact c4_ p h1
  · rw [nL _ _ (by omega)]; exact c5_ p c h1 h2
  · rw [nL _ _ (by omega)]; exact c6_ p c h1 h2
  · rw [nL _ _ (by omega)]; exact c7_ p w_ h1 h2
  · rw [nL _ _ (by omega)]; exact c8_ w_ h1
  · rw [e7] at h1
    rw [e5]
    rw [nL _ _ (by omega)]; exact c9_ i p c h1 h2 h3
  · rw [e7] at h1
    rw [e5]
    rw [nI _ _ (by omega), hs _ (by omega)]; exact w1_ i h1

end P83
