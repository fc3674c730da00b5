/-! what a change leaves: one cell of an office; outcomes of calls -/
section P89
variable {sa sv d N o B : Nat} {m : am_M} {s : Nat → Int32} {q : Nat → Int64}
theorem OV.day (hV : OV m o s q)  (v : Int32) : OV (si_ m o 0 v) o (up1 s 4 v) q := by
  have nI : ∀ a k, ¬ (a = o ∧ k = 0) → gi_ (si_ m o 0 v) a k = gi_ m a k := fun a k z => if_neg z
  have nL : ∀ a k : Nat, a = a → gl_ (si_ m o 0 v) a k = gl_ m a k := fun _ _ _ => rfl
  have r0 : gi_ (si_ m o 0 v) o 0 = v := if_pos ⟨rfl, rfl⟩
  have hs : ∀ k, ¬ k = 4 → up1 s 4 v k = s k := fun k z => if_neg z
  have hj : up1 s 4 v 4 = v := if_pos rfl
  have e5 : cN (up1 s 4 v) 5 = cN s 5 := cN_cg (hs _ (by omega))
  have e6 : cN (up1 s 4 v) 6 = cN s 6 := cN_cg (hs _ (by omega))
  have e7 : cN (up1 s 4 v) 7 = cN s 7 := cN_cg (hs _ (by omega))
  generalize si_ m o 0 v = m' at *
  generalize up1 s 4 v = s' at *
  obtain ⟨a1_, a2_, a3_, a4_, a5_, a6_, a7_, a8_, a9_, v1_, v2_, v3_, v4_, v5_, v6_, v7_, v8_, v9_, c1_, c2_, c3_, c4_, c5_, c6_, c7_, c8_, c9_, w1_⟩ := hV
  refine ⟨?_, ?_, ?_, fun k h => ?_, fun k h => ?_, fun k h => ?_, fun k h => ?_, fun k h => ?_, fun w i h1 h2 => ?_, fun w i h1 h2 => ?_, fun w k h1 h2 => ?_, fun w k h1 h2 => ?_, fun w k j h1 h2 h3 => ?_, fun w k j h1 h2 h3 => ?_, ?_, fun a c h1 h2 => ?_, ?_, fun a c h1 h2 => ?_, ?_, fun a c h1 h2 => ?_, ?_, fun p h1 => ?_, fun p c h1 h2 => ?_, fun p c h1 h2 => ?_, fun p w h1 h2 => ?_, fun w h1 => ?_, fun i p c h1 h2 h3 => ?_, fun i h1 => ?_⟩
  · rw [r0, hj]
  · rw [nI _ _ (by omega), hs _ (by omega)]; exact a2_ 
  · rw [nI _ _ (by omega), hs _ (by omega)]; exact a3_ 
  · rw [nL _ _ (by omega)]; exact a4_ k h
  · rw [nI _ _ (by omega), hs _ (by omega)]; exact a5_ k h
  · rw [nL _ _ (by omega)]; exact a6_ k h
  · rw [nI _ _ (by omega), hs _ (by omega)]; exact a7_ k h
  · rw [nI _ _ (by omega), hs _ (by omega)]; exact a8_ k h
  · rw [nI _ _ (by omega), hs _ (by omega)]; exact a9_ w i h1 h2
  · rw [nI _ _ (by omega), hs _ (by omega)]; exact v1_ w i h1 h2
  · rw [nI _ _ (by omega), hs _ (by omega)]; exact v2_ w k h1 h2
  · rw [nI _ _ (by omega), hs _ (by omega)]; exact v3_ w k h1 h2
  · rw [nI _ _ (by omega), hs _ (by omega)]; exact v4_ w k j h1 h2 h3
  · rw [nI _ _ (by omega), hs _ (by omega)]; exact v5_ w k j h1 h2 h3
  · rw [nI _ _ (by omega), hs _ (by omega)]; exact v6_ 
  · rw [nI _ _ (by omega), hs _ (by omega)]; exact v7_ a c h1 h2
  · rw [nI _ _ (by omega), hs _ (by omega)]; exact v8_ 
  · rw [nI _ _ (by omega), hs _ (by omega)]; exact v9_ a c h1 h2
  · rw [nI _ _ (by omega), hs _ (by omega)]; exact c1_ 
  · rw [e6] at h1
    rw [nI _ _ (by omega), hs _ (by omega)]; exact c2_ a c h1 h2
  · rw [nI _ _ (by omega), hs _ (by omega)]; exact c3_ 
  · rw [nL _ _ (by omega)]; exact c4_ p h1
  · rw [nL _ _ (by omega)]; exact c5_ p c h1 h2
  · rw [nL _ _ (by omega)]; exact c6_ p c h1 h2
  · rw [nL _ _ (by omega)]; exact c7_ p w h1 h2
  · rw [nL _ _ (by omega)]; exact c8_ w h1
  · rw [e7] at h1
    rw [e5]
    rw [nL _ _ (by omega)]; exact c9_ i p c h1 h2 h3
  · rw [e7] at h1
    rw [e5]
    rw [nI _ _ (by omega), hs _ (by omega)]; exact w1_ i h1
theorem OV.lea (hV : OV m o s q) (p : Nat) (v : Int32) (hp : p < 10) : OV (si_ m (o + 3) p v) o (up1 s (8 + p) v) q := by
  have nI : ∀ a k, ¬ (a = (o + 3) ∧ k = p) → gi_ (si_ m (o + 3) p v) a k = gi_ m a k := fun a k z => if_neg z
  have nL : ∀ a k : Nat, a = a → gl_ (si_ m (o + 3) p v) a k = gl_ m a k := fun _ _ _ => rfl
  have r0 : gi_ (si_ m (o + 3) p v) (o + 3) p = v := if_pos ⟨rfl, rfl⟩
  have hs : ∀ k, ¬ k = (8 + p) → up1 s (8 + p) v k = s k := fun k z => if_neg z
  have hj : up1 s (8 + p) v (8 + p) = v := if_pos rfl
  have e5 : cN (up1 s (8 + p) v) 5 = cN s 5 := cN_cg (hs _ (by omega))
  have e6 : cN (up1 s (8 + p) v) 6 = cN s 6 := cN_cg (hs _ (by omega))
  have e7 : cN (up1 s (8 + p) v) 7 = cN s 7 := cN_cg (hs _ (by omega))
  generalize si_ m (o + 3) p v = m' at *
  generalize up1 s (8 + p) v = s' at *
  obtain ⟨a1_, a2_, a3_, a4_, a5_, a6_, a7_, a8_, a9_, v1_, v2_, v3_, v4_, v5_, v6_, v7_, v8_, v9_, c1_, c2_, c3_, c4_, c5_, c6_, c7_, c8_, c9_, w1_⟩ := hV
  refine ⟨?_, ?_, ?_, fun k h => ?_, fun k h => ?_, fun k h => ?_, fun k h => ?_, fun k h => ?_, fun w i h1 h2 => ?_, fun w i h1 h2 => ?_, fun w k h1 h2 => ?_, fun w k h1 h2 => ?_, fun w k j h1 h2 h3 => ?_, fun w k j h1 h2 h3 => ?_, ?_, fun a c h1 h2 => ?_, ?_, fun a c h1 h2 => ?_, ?_, fun a c h1 h2 => ?_, ?_, fun p h1 => ?_, fun p c h1 h2 => ?_, fun p c h1 h2 => ?_, fun p w h1 h2 => ?_, fun w h1 => ?_, fun i p c h1 h2 h3 => ?_, fun i h1 => ?_⟩
  · rw [nI _ _ (by omega), hs _ (by omega)]; exact a1_ 
  · rw [nI _ _ (by omega), hs _ (by omega)]; exact a2_ 
  · rw [nI _ _ (by omega), hs _ (by omega)]; exact a3_ 
  · rw [nL _ _ (by omega)]; exact a4_ k h
  · by_cases e : k = p
    · rw [e, r0, hj]
    · rw [nI _ _ (by omega), hs _ (by omega)]; exact a5_ k h
  · rw [nL _ _ (by omega)]; exact a6_ k h
  · rw [nI _ _ (by omega), hs _ (by omega)]; exact a7_ k h
  · rw [nI _ _ (by omega), hs _ (by omega)]; exact a8_ k h
  · rw [nI _ _ (by omega), hs _ (by omega)]; exact a9_ w i h1 h2
  · rw [nI _ _ (by omega), hs _ (by omega)]; exact v1_ w i h1 h2
  · rw [nI _ _ (by omega), hs _ (by omega)]; exact v2_ w k h1 h2
  · rw [nI _ _ (by omega), hs _ (by omega)]; exact v3_ w k h1 h2
  · rw [nI _ _ (by omega), hs _ (by omega)]; exact v4_ w k j h1 h2 h3
  · rw [nI _ _ (by omega), hs _ (by omega)]; exact v5_ w k j h1 h2 h3
  · rw [nI _ _ (by omega), hs _ (by omega)]; exact v6_ 
  · rw [nI _ _ (by omega), hs _ (by omega)]; exact v7_ a c h1 h2
  · rw [nI _ _ (by omega), hs _ (by omega)]; exact v8_ 
  · rw [nI _ _ (by omega), hs _ (by omega)]; exact v9_ a c h1 h2
  · rw [nI _ _ (by omega), hs _ (by omega)]; exact c1_ 
  · rw [e6] at h1
    rw [nI _ _ (by omega), hs _ (by omega)]; exact c2_ a c h1 h2
  · rw [nI _ _ (by omega), hs _ (by omega)]; exact c3_ 
  · rw [nL _ _ (by omega)]; exact c4_ p h1
  · rw [nL _ _ (by omega)]; exact c5_ p c h1 h2
  · rw [nL _ _ (by omega)]; exact c6_ p c h1 h2
  · rw [nL _ _ (by omega)]; exact c7_ p w h1 h2
  · rw [nL _ _ (by omega)]; exact c8_ w h1
  · rw [e7] at h1
    rw [e5]
    rw [nL _ _ (by omega)]; exact c9_ i p c h1 h2 h3
  · rw [e7] at h1
    rw [e5]
    rw [nI _ _ (by omega), hs _ (by omega)]; exact w1_ i h1
theorem OV.rev (hV : OV m o s q) (j : Nat) (v : Int32) (hj16 : j < 16) : OV (si_ m (o + 14) (j * 6 + 5) v) o (up1 s (594 + 6 * j + 5) v) q := by
  have nI : ∀ a k, ¬ (a = (o + 14) ∧ k = (j * 6 + 5)) → gi_ (si_ m (o + 14) (j * 6 + 5) v) a k = gi_ m a k := fun a k z => if_neg z
  have nL : ∀ a k : Nat, a = a → gl_ (si_ m (o + 14) (j * 6 + 5) v) a k = gl_ m a k := fun _ _ _ => rfl
  have r0 : gi_ (si_ m (o + 14) (j * 6 + 5) v) (o + 14) (j * 6 + 5) = v := if_pos ⟨rfl, rfl⟩
  have hs : ∀ k, ¬ k = (594 + 6 * j + 5) → up1 s (594 + 6 * j + 5) v k = s k := fun k z => if_neg z
  have hj : up1 s (594 + 6 * j + 5) v (594 + 6 * j + 5) = v := if_pos rfl
  have e5 : cN (up1 s (594 + 6 * j + 5) v) 5 = cN s 5 := cN_cg (hs _ (by omega))
  have e6 : cN (up1 s (594 + 6 * j + 5) v) 6 = cN s 6 := cN_cg (hs _ (by omega))
  have e7 : cN (up1 s (594 + 6 * j + 5) v) 7 = cN s 7 := cN_cg (hs _ (by omega))
  generalize si_ m (o + 14) (j * 6 + 5) v = m' at *
  generalize up1 s (594 + 6 * j + 5) v = s' at *
  obtain ⟨a1_, a2_, a3_, a4_, a5_, a6_, a7_, a8_, a9_, v1_, v2_, v3_, v4_, v5_, v6_, v7_, v8_, v9_, c1_, c2_, c3_, c4_, c5_, c6_, c7_, c8_, c9_, w1_⟩ := hV
  refine ⟨?_, ?_, ?_, fun k h => ?_, fun k h => ?_, fun k h => ?_, fun k h => ?_, fun k h => ?_, fun w i h1 h2 => ?_, fun w i h1 h2 => ?_, fun w k h1 h2 => ?_, fun w k h1 h2 => ?_, fun w k j h1 h2 h3 => ?_, fun w k j h1 h2 h3 => ?_, ?_, fun a c h1 h2 => ?_, ?_, fun a c h1 h2 => ?_, ?_, fun a c h1 h2 => ?_, ?_, fun p h1 => ?_, fun p c h1 h2 => ?_, fun p c h1 h2 => ?_, fun p w h1 h2 => ?_, fun w h1 => ?_, fun i p c h1 h2 h3 => ?_, fun i h1 => ?_⟩
  · rw [nI _ _ (by omega), hs _ (by omega)]; exact a1_ 
  · rw [nI _ _ (by omega), hs _ (by omega)]; exact a2_ 
  · rw [nI _ _ (by omega), hs _ (by omega)]; exact a3_ 
  · rw [nL _ _ (by omega)]; exact a4_ k h
  · rw [nI _ _ (by omega), hs _ (by omega)]; exact a5_ k h
  · rw [nL _ _ (by omega)]; exact a6_ k h
  · rw [nI _ _ (by omega), hs _ (by omega)]; exact a7_ k h
  · rw [nI _ _ (by omega), hs _ (by omega)]; exact a8_ k h
  · rw [nI _ _ (by omega), hs _ (by omega)]; exact a9_ w i h1 h2
  · rw [nI _ _ (by omega), hs _ (by omega)]; exact v1_ w i h1 h2
  · rw [nI _ _ (by omega), hs _ (by omega)]; exact v2_ w k h1 h2
  · rw [nI _ _ (by omega), hs _ (by omega)]; exact v3_ w k h1 h2
  · rw [nI _ _ (by omega), hs _ (by omega)]; exact v4_ w k j h1 h2 h3
  · rw [nI _ _ (by omega), hs _ (by omega)]; exact v5_ w k j h1 h2 h3
  · rw [nI _ _ (by omega), hs _ (by omega)]; exact v6_ 
  · by_cases e : a = j ∧ c = 5
    · rw [e.1, e.2, r0, hj]
    · rw [nI _ _ (by omega), hs _ (by omega)]; exact v7_ a c h1 h2
  · rw [nI _ _ (by omega), hs _ (by omega)]; exact v8_ 
  · rw [nI _ _ (by omega), hs _ (by omega)]; exact v9_ a c h1 h2
  · rw [nI _ _ (by omega), hs _ (by omega)]; exact c1_ 
  · rw [e6] at h1
    rw [nI _ _ (by omega), hs _ (by omega)]; exact c2_ a c h1 h2
  · rw [nI _ _ (by omega), hs _ (by omega)]; exact c3_ 
  · rw [nL _ _ (by omega)]; exact c4_ p h1
  · rw [nL _ _ (by omega)]; exact c5_ p c h1 h2
  · rw [nL _ _ (by omega)]; exact c6_ p c h1 h2
  · rw [nL _ _ (by omega)]; exact c7_ p w h1 h2
  · rw [nL _ _ (by omega)]; exact c8_ w h1
  · rw [e7] at h1
    rw [e5]
    rw [nL _ _ (by omega)]; exact c9_ i p c h1 h2 h3
  · rw [e7] at h1
    rw [e5]
    rw [nI _ _ (by omega), hs _ (by omega)]; exact w1_ i h1
end P89
/-- how a call of the class ends -/
def CI (m : am_M) (N : Nat) (X : TX) (E : Option Nat) (v : Int32) (r : Option am_R) : Prop := ∃ m', Fr (KC N) m m' ∧ TC m' N X ∧ r = match E with
  | none => some (.inl (some (.int v)), m')
  | some e => some (.inr e, th_ m')
def CJ (m : am_M) (N : Nat) (X : TX) (E : Option Nat) (v : Int64) (r : Option am_R) : Prop := ∃ m', Fr (KC N) m m' ∧ TC m' N X ∧ r = match E with
  | none => some (.inl (some (.long v)), m')
  | some e => some (.inr e, th_ m')
def E3 (b c : Bool) : Option Nat := bif b then (bif c then none else some 1) else some 2
section I89
variable {sa sv d N o n B : Nat} {X : TX} {m m' : am_M} {f : Nat → Nat} {P : Nat → Nat → Prop} {s s' : Nat → Int32} {q q' : Nat → Int64}
/-- the present office takes other numbers -/
theorem TC.off (h : TC m N X) (hF : TF m N f X) (hf : Fr P m m') (hp : ∀ a k, P a k → XF N a k ∧ (OA (oa N (f 7)) a ∨ (a < N + 27 ∧ ¬ a = N ∧ ¬ a = N + 1 ∧ ¬ a = N + 2 ∧ ¬ a = N + 3 ∧ ¬ a = N + 23 ∧ ¬ a = N + 24 ∧ ¬ a = N + 26))) (hO : OS m' (oa N (f 7))) (hV : OV m' (oa N (f 7)) s' q') : TC m' N (X.wS s' q') ∧ TF m' N f (X.wS s' q') := by
  obtain ⟨f1, f2, f3, f4, f5, f6, f7⟩ := hF
  have l7 := oa_lo N (f 7)
  have no : ∀ j, j < 8 → ¬ j = f 7 → ∀ a k, oa N j ≤ a → a < oa N j + 27 → ¬ P a k := fun j hj e a k z1 z2 z => by
    have h1 := oa_lo N j
    have h3 := oa_ne N e
    have := (hp a k z).2
    unfold OA at this
    omega
  have lo : ∀ a k, (a = N ∨ a = N + 1 ∨ a = N + 2 ∨ a = N + 3 ∨ a = N + 23 ∨ a = N + 24 ∨ a = N + 26) → ¬ P a k := fun a k z z2 => by
    have := (hp a k z2).2
    unfold OA at this
    omega
  have hi : ∀ a k, (a = N ∨ a = N + 1 ∨ a = N + 2 ∨ a = N + 3 ∨ a = N + 23 ∨ a = N + 24 ∨ a = N + 26) → gi_ m' a k = gi_ m a k := fun a k z => hf.2.1 a k (lo a k z)
  have hr : ∀ a k, (a = N ∨ a = N + 1 ∨ a = N + 2 ∨ a = N + 3 ∨ a = N + 23 ∨ a = N + 24 ∨ a = N + 26) → gr_ m' a k = gr_ m a k := fun a k z => hf.2.2.2.1 a k (lo a k z)
  have hF' : TF m' N f (X.wS s' q') := ⟨f1, (hr _ _ (by omega)).trans f2, (hr _ _ (by omega)).trans f3, fun i hi => (hr _ _ (by omega)).trans (f4 i hi), hV, fun i hi => (f6 i hi).fr hf (no _ (f1.lt (by have := h.u5; have : i < X.u := hi; omega)) (f1.ne (by have := h.u5; have : i < X.u := hi; omega) (by omega) (by have := h.u5; have : i < X.u := hi; omega))), fun z => (f7 z).fr hf (no 5 (by omega) (fun z2 => by
    have := f1.2.1 5 7 (by omega) (by omega) (by rw [f1.2.2]; exact z2)
    omega))⟩
  refine ⟨TC.gen h hf (fun a k z => ⟨(hp a k z).1, fun z2 => lo a k (by omega) z, fun z2 => lo a k (by omega) z, fun z2 => lo a k (by omega) z, fun z2 => lo a k (by omega) z⟩) (X.wS s' q') rfl rfl rfl (h.b.fr hf (fun k => lo _ k (by omega))) ((hi _ _ (by omega)).trans h.n) ((hi _ _ (by omega)).trans h.u) h.u5 ((hi _ _ (by omega)).trans h.e1) ((hi _ _ (by omega)).trans h.e2) ((hi _ _ (by omega)).trans h.e3) (fun j hj => ?_) ⟨f, hF'⟩, hF'⟩
  by_cases e : j = f 7
  · rw [e]; exact hO
  · exact (h.o j hj).fr' hf (no j hj e)
/-- an income is divided, withheld and booked (class) -/
theorem xbook (hX : XS m N) (hO : OS m o) (hV : OV m o s q) (h1 : N + 27 ≤ o) (h2 : o + 27 ≤ N + 243) (hG : WG B s q) (w a : Nat) (hw : w < cN s 1) (ha : a ≤ 9999999) : ∃ m1 m2 m3 m4, am_ca sa sv (d + 4) 32 [.ref (N + 14), .ref o, .int (nI (cN s 4))] m = some (.inl none, m1) ∧ Fr (DX N) m m1 ∧ XS m1 N ∧ am_ca sa sv (d + 4) 35 [.ref (N + 14), .int (nI w), .int (nI a)] m1 = some (.inl none, m2) ∧ Fr (DX N) m m2 ∧ XS m2 N ∧ am_ca sa sv (d + 4) 39 [.ref (N + 14)] m2 = some (.inl none, m3) ∧ Fr (DX N) m m3 ∧ XS m3 N ∧ am_ca sa sv (d + 4) 88 [.ref o, .ref (N + 14)] m3 = some (.inl none, m4) ∧ Fr (fun a k => DX N a k ∨ OA o a) m m4 ∧ XS m4 N ∧ OS m4 o ∧ OV m4 o (bS_ s (dL_ s w a)) (bQ_ s (dL_ s w a) (dvd_ s (cN s 4) w a).1 q) := by
  have hF := hG.1
  have hC := wf_c hF
  have hW := wf_w hF
  have hA := wf_a hF
  have hD := wf_d hF
  obtain ⟨e4, b4⟩ := (wc_day hC).c (by decide)
  have oD : ∀ a k, DX N a k → a < N + 27 := fun a k z => by
    unfold DX DP DQ DC DL at z
    omega
  have no : ∀ a k, o ≤ a → a < o + 27 → ¬ DX N a k := fun a k z1 z2 z => by have := oD a k z; omega
  obtain ⟨m1, p1, p2, p3⟩ := x32 (sa := sa) (sv := sv) (d := d) hX hO hV h1 hC hW hA hD (cN s 4) (by omega)
  have f1 : Fr (DX N) m m1 := p2.mono fun _ _ h => DX.p h
  obtain ⟨m2, g1, g2, g3, g4, g5⟩ := x35 (sa := sa) (sv := sv) (d := d) p3 hC hW hA w a hw ha
  have f2 : Fr (DX N) m m2 := f1.trans (g2.mono fun _ _ h => DX.c h)
  have hP2 := p3.fr g2
  have hGL := dvd_GL hC hW hA (cN s 4) w a hw ha
  have h64 := dvd_64 hC hW (cN s 4) w a hw
  have hsm := dvd_lsm hC hW hA (cN s 4) w a hw
  have hfb := dvd_le hC hW hA (cN s 4) w a hw
  have hf0 := fun u hu => dvd_hi hC hW (cN s 4) w a hw (u := u) hu
  obtain ⟨m3, k1, k2, k3, k4, k5⟩ := x39 (sa := sa) (sv := sv) (d := d + 1) hP2 hC hD h64 hGL (g4.f fun x hx => (hGL x hx).2.2.2.2) g5
  have f3 : Fr (DX N) m m3 := f2.trans (k2.mono fun _ _ h => DX.w h)
  have hX3 : XS m3 N := hX.frX f3
  have r3 : gi_ m3 (N + 21) 2 = nI (dvd_ s (cN s 4) w a).2.length := (k2.2.1 _ _ (by unfold DW; omega)).trans g5
  have c3 : ∀ u, u < 12 → gi_ m3 (N + 18) u = nI ((dvd_ s (cN s 4) w a).1 u) := fun u hu => (k2.2.1 _ _ (by unfold DW; omega)).trans (g3 u hu)
  obtain ⟨m4, j1, j2, j3, j4⟩ := x88 (sa := sa) (sv := sv) (d := d) hX3 (hO.fr' f3 no) (hV.fr f3 no) h1 h2 hF h64 (by omega) hGL k3 r3 c3 (fun u => by have := hfb u; omega) hf0 k4 k5
  exact ⟨m1, m2, m3, m4, p1, f1, p3.1, g1, f2, hP2.1, k1, f3, hX3, j1, (f3.mono fun _ _ z => Or.inl z).trans (j2.mono fun _ _ z => Or.inr z), hX3.frO j2 h1 h2 (fun a k z => z), j3, j4⟩
end I89
