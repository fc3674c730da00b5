/-! a source more, a work more: the class -/
def wk1 (s : Nat → Int32) (k : Nat) : Int32 := if k = 1 then nI (cN s 1 + 1) else s k
def wkQ (s : Nat → Int32) (q : Nat → Int64) (nm : Int64) (k : Nat) : Int64 := if k = 472 + cN s 1 then nm else q k
section P83
variable {sa sv d N o B : Nat} {m : am_M} {s : Nat → Int32} {q : Nat → Int64} {L : List (Nat × Nat)}
def SOc (o w n a k : Nat) : Prop := (a = o + 5 ∧ k = w) ∨ (a = o + 8 ∧ (k = (w * 3 + n) * 2 ∨ k = (w * 3 + n) * 2 + 1))
theorem x10 (hO : OS m o) (hV : OV m o s q) (nw w n so pc : Nat) (hnw : nw ≤ 12) (hw : w < nw) (h1 : s 1 = nI nw) (hn3 : n < 3) (hn : s (59 + 48 * w) = nI n) : ∃ m', am_ca sa sv (d + 2) 10 [.ref (o + 1), .int (nI w), .int (nI so), .int (nI pc)] m = some (.inl none, m') ∧ Fr (OC o) m m' ∧ OS m' o ∧ OV m' o (srcU s w n so pc) q := by
  have hw1 : gi_ m (o + 1) 1 = nI nw := (ov_nw hV).trans h1
  have hn1 : gi_ m (o + 5) w = nI n := (ov_so hV w (by omega)).trans hn
  have p1 := x128 (sa := sa) (sv := sv) (d := d) (ot7 hO) (by decide) (w * 3 + n) 0 (nI so) (by omega)
  rw [show o + 7 + 1 = o + 8 from rfl, show (w * 3 + n) * 2 + 0 = (w * 3 + n) * 2 from rfl] at p1
  have hF1 : Fr (SOc o w n) m (si_ m (o + 8) ((w * 3 + n) * 2) (nI so)) := (Fr.refl _ _).si (Or.inr ⟨rfl, Or.inl rfl⟩)
  have hO1 := hO.frd hF1 (fun a k z => by unfold SOc at z; omega)
  have p2 := x128 (sa := sa) (sv := sv) (d := d) (ot7 hO1) (by decide) (w * 3 + n) 1 (nI pc) (by omega)
  rw [show o + 7 + 1 = o + 8 from rfl] at p2
  have hF2 : Fr (SOc o w n) m (si_ (si_ m (o + 8) ((w * 3 + n) * 2) (nI so)) (o + 8) ((w * 3 + n) * 2 + 1) (nI pc)) := hF1.si (Or.inr ⟨rfl, Or.inr rfl⟩)
  have hO2 := hO.frd hF2 (fun a k z => by unfold SOc at z; omega)
  have hn2 : gi_ (si_ (si_ m (o + 8) ((w * 3 + n) * 2) (nI so)) (o + 8) ((w * 3 + n) * 2 + 1) (nI pc)) (o + 5) w = nI n := by rw [gi_si, if_neg (by omega), gi_si, if_neg (by omega)]; exact hn1
  have r8a : gi_ (si_ (si_ m (o + 8) ((w * 3 + n) * 2) (nI so)) (o + 8) ((w * 3 + n) * 2 + 1) (nI pc)) (o + 8) ((w * 3 + n) * 2) = nI so := by rw [gi_si, if_neg (by omega), gi_si, if_pos ⟨rfl, rfl⟩]
  have r8b : gi_ (si_ (si_ m (o + 8) ((w * 3 + n) * 2) (nI so)) (o + 8) ((w * 3 + n) * 2 + 1) (nI pc)) (o + 8) ((w * 3 + n) * 2 + 1) = nI pc := by rw [gi_si, if_pos ⟨rfl, rfl⟩]
  generalize e2 : si_ (si_ m (o + 8) ((w * 3 + n) * 2) (nI so)) (o + 8) ((w * 3 + n) * 2 + 1) (nI pc) = m2 at *
  have hF : Fr (SOc o w n) m (si_ m2 (o + 5) w (nI (n + 1))) := hF2.si (Or.inl ⟨rfl, rfl⟩)
  have r5 : gi_ (si_ m2 (o + 5) w (nI (n + 1))) (o + 5) w = nI (n + 1) := by rw [gi_si, if_pos ⟨rfl, rfl⟩]
  have r8 : ∀ k, gi_ (si_ m2 (o + 5) w (nI (n + 1))) (o + 8) k = gi_ m2 (o + 8) k := fun k => by rw [gi_si, if_neg (by omega)]
  refine ⟨si_ m2 (o + 5) w (nI (n + 1)), ?_, hF.mono fun a k z => by unfold SOc at z; unfold OC OA; omega, hO.frd hF (fun a k z => by unfold SOc at z; omega), ?_⟩
  · rw [c10, b10_0, x4r hO nw w hnw hw hw1]
    simp (disch := omega) only [gq_true, gb_true, gb_false, true_and, and_true, eq_self, not_false_eq_true, not_true_eq_false, true_or, or_true, false_or, or_false, false_and, and_false, c0_v, ci_v, cl_v, cf_v, pk_mul, nI_add, nI_clamp, nI_lt0, nI_0le, nI_eq0, nI_lt0r, nI_ltE, nI_leE, nI_eqE, nI_m1, in_t, ba0, ba1, Nat.one_ne_zero, Nat.reduceEqDiff, Nat.reduceLeDiff, Nat.add_eq_zero_iff, ok1 hO, or1_5 hO, ok5 hO, hn1, eq_false (show ¬ 3 ≤ n by omega), or1_7 hO, ok7 hO, p1, ok1 hO1, or1_7 hO1, ok7 hO1, p2, ok1 hO2, or1_5 hO2, ok5 hO2, hn2]
  generalize si_ m2 (o + 5) w (nI (n + 1)) = m' at *
  have nI : ∀ a k, ¬ ((a = o + 5 ∧ k = w) ∨ (a = o + 8 ∧ (k = (w * 3 + n) * 2 ∨ k = (w * 3 + n) * 2 + 1))) → gi_ m' a k = gi_ m a k := fun a k z => hF.2.1 _ _ (by unfold SOc; omega)
  have nL : ∀ a k, ¬ (a = o + 5 ∨ a = o + 8) → gl_ m' a k = gl_ m a k := fun a k z => hF.2.2.1 _ _ (by unfold SOc; omega)
  have hs : ∀ k, ¬ (k = 59 + 48 * w ∨ k = 60 + 48 * w + n ∨ k = 63 + 48 * w + n) → srcU s w n so pc k = s k := fun k z => by
    unfold srcU
    rw [if_neg (by omega), if_neg (by omega), if_neg (by omega)]
  have e5 : cN (srcU s w n so pc) 5 = cN s 5 := cN_cg (hs _ (by omega))
  have e6 : cN (srcU s w n so pc) 6 = cN s 6 := cN_cg (hs _ (by omega))
  have e7 : cN (srcU s w n so pc) 7 = cN s 7 := cN_cg (hs _ (by omega))
  obtain ⟨a1_, a2_, a3_, a4_, a5_, a6_, a7_, a8_, a9_, v1_, v2_, v3_, v4_, v5_, v6_, v7_, v8_, v9_, c1_, c2_, c3_, c4_, c5_, c6_, c7_, c8_, c9_, w1_⟩ := hV
  refine ⟨?_, ?_, ?_, fun k h => ?_, fun k h => ?_, fun k h => ?_, fun k h => ?_, fun k h => ?_, fun w_ i h1 h2 => ?_, fun w_ i h1 h2 => ?_, fun w_ k h1 h2 => ?_, fun w_ k h1 h2 => ?_, fun w_ k j h1 h2 h3 => ?_, fun w_ k j h1 h2 h3 => ?_, ?_, fun a c h1 h2 => ?_, ?_, fun a c h1 h2 => ?_, ?_, fun a c h1 h2 => ?_, ?_, fun p h1 => ?_, fun p c h1 h2 => ?_, fun p c h1 h2 => ?_, fun p w_ h1 h2 => ?_, fun w_ h1 => ?_, fun i p c h1 h2 h3 => ?_, fun i h1 => ?_⟩
  · rw [nI _ _ (by omega), hs _ (by omega)]; exact a1_ 
  · rw [nI _ _ (by omega), hs _ (by omega)]; exact a2_ 
  · rw [nI _ _ (by omega), hs _ (by omega)]; exact a3_ 
  · rw [nL _ _ (by omega)]; exact a4_ k h
  · rw [nI _ _ (by omega), hs _ (by omega)]; exact a5_ k h
  · rw [nL _ _ (by omega)]; exact a6_ k h
  · by_cases e : k = w
    · rw [e, r5]; unfold srcU; rw [if_pos rfl]
    · rw [nI _ _ (by omega), hs _ (by omega)]; exact a7_ k h
  · rw [nI _ _ (by omega), hs _ (by omega)]; exact a8_ k h
  · by_cases e : w_ = w ∧ i = n
    · obtain ⟨rfl, rfl⟩ := e
      rw [r8, r8a]; unfold srcU; rw [if_neg (by omega), if_pos rfl]
    · rw [nI _ _ (by omega), hs _ (by omega)]; exact a9_ w_ i h1 h2
  · by_cases e : w_ = w ∧ i = n
    · obtain ⟨rfl, rfl⟩ := e
      rw [r8, r8b]; unfold srcU; rw [if_neg (by omega), if_neg (by omega), if_pos rfl]
    · rw [nI _ _ (by omega), hs _ (by omega)]; exact v1_ w_ i h1 h2
  · rw [nI _ _ (by omega), hs _ (by omega)]; exact v2_ w_ k h1 h2
  · rw [nI _ _ (by omega), hs _ (by omega)]; exact v3_ w_ k h1 h2
  · rw [nI _ _ (by omega), hs _ (by omega)]; exact v4_ w_ k j h1 h2 h3
  · rw [nI _ _ (by omega), hs _ (by omega)]; exact v5_ w_ k j h1 h2 h3
  · rw [nI _ _ (by omega), hs _ (by omega)]; exact v6_ 
  · rw [nI _ _ (by omega), hs _ (by omega)]; exact v7_ a c h1 h2
  · rw [nI _ _ (by omega), hs _ (by omega)]; exact v8_ 
  · rw [nI _ _ (by omega), hs _ (by omega)]; exact v9_ a c h1 h2
  · rw [nI _ _ (by omega), hs _ (by omega)]; exact c1_ 
  · rw [e6] at h1
    rw [nI _ _ (by omega), hs _ (by omega)]; exact c2_ a c h1 h2
  · rw [nI _ _ (by omega), hs _ (by omega)]; exact c3_ 
  · rw [nL _ _ (by omega)]; exact c4_ p h1
  · rw [nL _ _ (by omega)]; exact c5_ p c h1 h2
  · rw [nL _ _ (by omega)]; exact c6_ p c h1 h2
  · rw [nL _ _ (by omega)]; exact c7_ p w_ h1 h2
  · rw [nL _ _ (by omega)]; exact c8_ w_ h1
  · rw [e7] at h1
    rw [e5]
    rw [nL _ _ (by omega)]; exact c9_ i p c h1 h2 h3
  · rw [e7] at h1
    rw [e5]
    rw [nI _ _ (by omega), hs _ (by omega)]; exact w1_ i h1
theorem x9 (hX : XS m N) (hO : OS m o) (hV : OV m o s q) (ho1 : N + 27 ≤ o) (ho2 : o + 27 ≤ N + 243) (h6 : cN s 6 < 65) (h7 : cN s 7 ≤ 5) (nm : Int64) (hw : cN s 1 < 12) (h1 : s 1 = nI (cN s 1)) (hz : s (18 + 48 * cN s 1) = 0) (hH : CH m N L) : ∃ m', am_ca sa sv (d + 4) 9 [.ref (o + 1), .long nm, .ref (N + 8)] m = some (.inl none, m') ∧ Fr (OC o) m m' ∧ OS m' o ∧ OV m' o (splU (wk1 s) (cN s 1) 0 0 L) (wkQ s q nm) := by
  have hw1 : gi_ m (o + 1) 1 = nI (cN s 1) := (ov_nw hV).trans h1
  have hF : Fr (fun a k => (a = o + 1 ∧ k = 1) ∨ (a = o + 4 ∧ k = cN s 1)) m (si_ (sl_ m (o + 4) (cN s 1) nm) (o + 1) 1 (nI (cN s 1 + 1))) := ((Fr.refl _ _).sl (Or.inr ⟨rfl, rfl⟩)).si (Or.inl ⟨rfl, rfl⟩)
  have hA : Fr (OC o) m (si_ (sl_ m (o + 4) (cN s 1) nm) (o + 1) 1 (nI (cN s 1 + 1))) := hF.mono fun a k z => by unfold OC OA; omega
  have r1 : gi_ (si_ (sl_ m (o + 4) (cN s 1) nm) (o + 1) 1 (nI (cN s 1 + 1))) (o + 1) 1 = nI (cN s 1 + 1) := by rw [gi_si, if_pos ⟨rfl, rfl⟩]
  have r4 : gl_ (si_ (sl_ m (o + 4) (cN s 1) nm) (o + 1) 1 (nI (cN s 1 + 1))) (o + 4) (cN s 1) = nm := by rw [gl_si, gl_sl, if_pos ⟨rfl, rfl⟩]
  have run : am_ca sa sv (d + 4) 9 [.ref (o + 1), .long nm, .ref (N + 8)] m = am_c0 (am_ca sa sv (d + 3) 11 [.ref (o + 1), .int (nI (cN s 1)), .int (nI 0), .ref (N + 8)] (si_ (sl_ m (o + 4) (cN s 1) nm) (o + 1) 1 (nI (cN s 1 + 1)))) (fun m1 => some (.inl none, m1)) am_xg := by
    have r1' : gi_ (si_ m (o + 1) 1 (nI (cN s 1 + 1))) (o + 1) 1 - nI 1 = nI (cN s 1) := by rw [gi_si, if_pos ⟨rfl, rfl⟩]; exact dm_s _
    rw [c9, b9_0]
    simp (disch := omega) only [gq_true, gb_true, gb_false, true_and, and_true, eq_self, not_false_eq_true, not_true_eq_false, true_or, or_true, false_or, or_false, false_and, and_false, c0_v, ci_v, cl_v, cf_v, pk_mul, nI_add, nI_clamp, nI_lt0, nI_0le, nI_eq0, nI_lt0r, nI_ltE, nI_leE, nI_eqE, nI_m1, in_t, ba0, ba1, Nat.one_ne_zero, Nat.reduceEqDiff, Nat.reduceLeDiff, Nat.add_eq_zero_iff, ok1 hO, hw1, eq_false (show ¬ 12 ≤ cN s 1 by omega), or1_4 hO, ok4 hO, r1']
  have hO1 := hO.frd hF (fun a k z => by omega)
  have hX1 := hX.frO hA ho1 ho2 (fun a k z => z.1)
  have hH1 : CH (si_ (sl_ m (o + 4) (cN s 1) nm) (o + 1) 1 (nI (cN s 1 + 1))) N L := by
    obtain ⟨t1, t2, t3⟩ := hH
    have fr : ∀ a k, a < N + 27 → gi_ (si_ (sl_ m (o + 4) (cN s 1) nm) (o + 1) 1 (nI (cN s 1 + 1))) a k = gi_ m a k := fun a k ha => hF.2.1 _ _ (by omega)
    refine ⟨(fr _ _ (by omega)).trans t1, t2, fun j x hx => ?_⟩
    obtain ⟨a1, a2, a3, a4⟩ := t3 j x hx
    exact ⟨a1, a2, (fr _ _ (by omega)).trans a3, (fr _ _ (by omega)).trans a4⟩
  generalize si_ (sl_ m (o + 4) (cN s 1) nm) (o + 1) 1 (nI (cN s 1 + 1)) = m1 at *
  have hV1 : OV m1 o (wk1 s) (wkQ s q nm) := by
    have nI : ∀ a k, ¬ (a = o + 1 ∧ k = 1) → ¬ a = o + 4 → gi_ m1 a k = gi_ m a k := fun a k z z2 => hF.2.1 _ _ (by omega)
    have nL : ∀ a k, ¬ a = o + 1 → ¬ (a = o + 4 ∧ k = cN s 1) → gl_ m1 a k = gl_ m a k := fun a k z z2 => hF.2.2.1 _ _ (by omega)
    have hs : ∀ k, ¬ k = 1 → wk1 s k = s k := fun k z => if_neg z
    have hq : ∀ k, ¬ k = 472 + cN s 1 → wkQ s q nm k = q k := fun k z => if_neg z
    have e5 : cN (wk1 s) 5 = cN s 5 := cN_cg (hs _ (by omega))
    have e6 : cN (wk1 s) 6 = cN s 6 := cN_cg (hs _ (by omega))
    have e7 : cN (wk1 s) 7 = cN s 7 := cN_cg (hs _ (by omega))
    obtain ⟨a1_, a2_, a3_, a4_, a5_, a6_, a7_, a8_, a9_, v1_, v2_, v3_, v4_, v5_, v6_, v7_, v8_, v9_, c1_, c2_, c3_, c4_, c5_, c6_, c7_, c8_, c9_, w1_⟩ := hV
    refine ⟨?_, ?_, ?_, fun k h => ?_, fun k h => ?_, fun k h => ?_, fun k h => ?_, fun k h => ?_, fun w i h1 h2 => ?_, fun w i h1 h2 => ?_, fun w k h1 h2 => ?_, fun w k h1 h2 => ?_, fun w k j h1 h2 h3 => ?_, fun w k j h1 h2 h3 => ?_, ?_, fun a c h1 h2 => ?_, ?_, fun a c h1 h2 => ?_, ?_, fun a c h1 h2 => ?_, ?_, fun p h1 => ?_, fun p c h1 h2 => ?_, fun p c h1 h2 => ?_, fun p w h1 h2 => ?_, fun w h1 => ?_, fun i p c h1 h2 h3 => ?_, fun i h1 => ?_⟩
    · rw [nI _ _ (by omega) (by omega), hs _ (by omega)]; exact a1_ 
    · rw [nI _ _ (by omega) (by omega), hs _ (by omega)]; exact a2_ 
    · rw [r1]; exact (if_pos rfl).symm
    · rw [nL _ _ (by omega) (by omega), hq _ (by omega)]; exact a4_ k h
    · rw [nI _ _ (by omega) (by omega), hs _ (by omega)]; exact a5_ k h
    · by_cases e : k = cN s 1
      · rw [e, r4]; exact (if_pos rfl).symm
      · rw [nL _ _ (by omega) (by omega), hq _ (by omega)]; exact a6_ k h
    · rw [nI _ _ (by omega) (by omega), hs _ (by omega)]; exact a7_ k h
    · rw [nI _ _ (by omega) (by omega), hs _ (by omega)]; exact a8_ k h
    · rw [nI _ _ (by omega) (by omega), hs _ (by omega)]; exact a9_ w i h1 h2
    · rw [nI _ _ (by omega) (by omega), hs _ (by omega)]; exact v1_ w i h1 h2
    · rw [nI _ _ (by omega) (by omega), hs _ (by omega)]; exact v2_ w k h1 h2
    · rw [nI _ _ (by omega) (by omega), hs _ (by omega)]; exact v3_ w k h1 h2
    · rw [nI _ _ (by omega) (by omega), hs _ (by omega)]; exact v4_ w k j h1 h2 h3
    · rw [nI _ _ (by omega) (by omega), hs _ (by omega)]; exact v5_ w k j h1 h2 h3
    · rw [nI _ _ (by omega) (by omega), hs _ (by omega)]; exact v6_ 
    · rw [nI _ _ (by omega) (by omega), hs _ (by omega)]; exact v7_ a c h1 h2
    · rw [nI _ _ (by omega) (by omega), hs _ (by omega)]; exact v8_ 
    · rw [nI _ _ (by omega) (by omega), hs _ (by omega)]; exact v9_ a c h1 h2
    · rw [nI _ _ (by omega) (by omega), hs _ (by omega)]; exact c1_ 
    · rw [e6] at h1
      rw [nI _ _ (by omega) (by omega), hs _ (by omega)]; exact c2_ a c h1 h2
    · rw [nI _ _ (by omega) (by omega), hs _ (by omega)]; exact c3_ 
    · rw [nL _ _ (by omega) (by omega), hq _ (by omega)]; exact c4_ p h1
    · rw [nL _ _ (by omega) (by omega), hq _ (by omega)]; exact c5_ p c h1 h2
    · rw [nL _ _ (by omega) (by omega), hq _ (by omega)]; exact c6_ p c h1 h2
    · rw [nL _ _ (by omega) (by omega), hq _ (by omega)]; exact c7_ p w h1 h2
    · rw [nL _ _ (by omega) (by omega), hq _ (by omega)]; exact c8_ w h1
    · rw [e7] at h1
      rw [e5]
      rw [nL _ _ (by omega) (by omega), hq _ (by omega)]; exact c9_ i p c h1 h2 h3
    · rw [e7] at h1
      rw [e5]
      rw [nI _ _ (by omega) (by omega), hs _ (by omega)]; exact w1_ i h1
  have hs1 : ∀ k, ¬ k = 1 → wk1 s k = s k := fun k z => if_neg z
  have e6 : cN (wk1 s) 6 = cN s 6 := cN_cg (hs1 _ (by omega))
  have e7 : cN (wk1 s) 7 = cN s 7 := cN_cg (hs1 _ (by omega))
  obtain ⟨m2, g1, g2, g3, g4⟩ := x11 (sa := sa) (sv := sv) (d := d) hX1 hO1 hV1 ho1 ho2 (by omega) (by omega) (cN s 1 + 1) (cN s 1) 0 0 (by omega) (by omega) (if_pos rfl) (by decide) ((hs1 _ (by omega)).trans hz) hH1
  refine ⟨m2, ?_, hA.trans g2, g3, g4⟩
  rw [run, g1, c0_v]
end P83
