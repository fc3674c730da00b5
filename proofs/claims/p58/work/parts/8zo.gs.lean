/-! the generator's state: the World, the builder, the script -/
def GS (sa : Nat) (m : am_M) (sv : Nat) (x : Nat) (b : Nat) (t : Nat) (ow : Nat → Nat) (s : Nat → Int32) (q : Nat → Int64) (l : List Int32) : Prop :=
  (WS m sv x ow s q) ∧
  (XN m x t) ∧
  (KS sa m sv) ∧
  (SBv m b l) ∧
  (GLm s) ∧
  (WG 0 s q) ∧
  (SM s q) ∧
  (cN s 2 ≤ 3) ∧
  (cN s 3 ≤ 3)
theorem GS.ws {sa : Nat} {m : am_M} {sv : Nat} {x : Nat} {b : Nat} {t : Nat} {ow : Nat → Nat} {s : Nat → Int32} {q : Nat → Int64} {l : List Int32} (h : GS sa m sv x b t ow s q l) : WS m sv x ow s q := h.1
theorem GS.xn {sa : Nat} {m : am_M} {sv : Nat} {x : Nat} {b : Nat} {t : Nat} {ow : Nat → Nat} {s : Nat → Int32} {q : Nat → Int64} {l : List Int32} (h : GS sa m sv x b t ow s q l) : XN m x t := h.2.1
theorem GS.ks {sa : Nat} {m : am_M} {sv : Nat} {x : Nat} {b : Nat} {t : Nat} {ow : Nat → Nat} {s : Nat → Int32} {q : Nat → Int64} {l : List Int32} (h : GS sa m sv x b t ow s q l) : KS sa m sv := h.2.2.1
theorem GS.sb {sa : Nat} {m : am_M} {sv : Nat} {x : Nat} {b : Nat} {t : Nat} {ow : Nat → Nat} {s : Nat → Int32} {q : Nat → Int64} {l : List Int32} (h : GS sa m sv x b t ow s q l) : SBv m b l := h.2.2.2.1
theorem GS.gl {sa : Nat} {m : am_M} {sv : Nat} {x : Nat} {b : Nat} {t : Nat} {ow : Nat → Nat} {s : Nat → Int32} {q : Nat → Int64} {l : List Int32} (h : GS sa m sv x b t ow s q l) : GLm s := h.2.2.2.2.1
theorem GS.wg {sa : Nat} {m : am_M} {sv : Nat} {x : Nat} {b : Nat} {t : Nat} {ow : Nat → Nat} {s : Nat → Int32} {q : Nat → Int64} {l : List Int32} (h : GS sa m sv x b t ow s q l) : WG 0 s q := h.2.2.2.2.2.1
theorem GS.sm {sa : Nat} {m : am_M} {sv : Nat} {x : Nat} {b : Nat} {t : Nat} {ow : Nat → Nat} {s : Nat → Int32} {q : Nat → Int64} {l : List Int32} (h : GS sa m sv x b t ow s q l) : SM s q := h.2.2.2.2.2.2.1
theorem GS.na {sa : Nat} {m : am_M} {sv : Nat} {x : Nat} {b : Nat} {t : Nat} {ow : Nat → Nat} {s : Nat → Int32} {q : Nat → Int64} {l : List Int32} (h : GS sa m sv x b t ow s q l) : cN s 2 ≤ 3 := h.2.2.2.2.2.2.2.1
theorem GS.nd {sa : Nat} {m : am_M} {sv : Nat} {x : Nat} {b : Nat} {t : Nat} {ow : Nat → Nat} {s : Nat → Int32} {q : Nat → Int64} {l : List Int32} (h : GS sa m sv x b t ow s q l) : cN s 3 ≤ 3 := h.2.2.2.2.2.2.2.2
def Gx (x b n z : Nat) (m m' : am_M) : Prop := Ex (fun y => y = x ∨ SBp m b y) n z m m' ∧ (gr_ m' b 0 = gr_ m b 0 ∨ gt_ m ≤ gr_ m' b 0)
section G8
variable {sa sv d x b t n z n' z' : Nat} {m m' m2 : am_M} {ow : Nat → Nat} {s : Nat → Int32} {q : Nat → Int64} {l l' : List Int32}
theorem Gx.trans (h : Gx x b n z m m') (h' : Gx x b n' z' m' m2) : Gx x b (n + n') (z + z') m m2 := by
  obtain ⟨a1, a2⟩ := h
  obtain ⟨b1, b2⟩ := h'
  have g := a1.gt
  refine ⟨a1.trans b1 (fun a ha q => ?_), by omega⟩
  unfold SBp at q ⊢
  omega
theorem Gx.refl (m : am_M) : Gx x b 0 0 m m := ⟨Ex.refl _ _, .inl rfl⟩
theorem Gx.mono (h : Gx x b n z m m') (hn : n ≤ n') (hz : z ≤ z') : Gx x b n' z' m m' := ⟨h.1.mono (fun _ _ q => q) hn hz, h.2⟩
theorem Eb.gx (h : Eb b n z m m') : Gx x b n z m m' := ⟨h.1.mono (fun _ _ q => .inr q) (Nat.le_refl _) (Nat.le_refl _), h.2⟩
theorem Gx.six (m : am_M) (k : Nat) (v : Int32) : Gx x b 0 0 m (si_ m x k v) := ⟨(Ex.refl _ _).si (.inr (.inl rfl)), .inl rfl⟩
/-- a field of the World that its rows don't tell -/
theorem WS.fld (h : WS m sv x ow s q) (hG : GLm s) (hna : cN s 2 ≤ 16) (hnd : cN s 3 ≤ 12) {c : Nat} {v : Int32} (hc : 3 ≤ c) : WS (si_ m x c v) sv x ow s q := by
  have e : Xt m sv ow ow (fun t => t = 0) (fun y => y = x) 0 0 (si_ m x c v) := ⟨(Ex.refl _ _).si (.inr rfl), fun y _ e _ => by rw [e]; exact h.x.1, fun _ _ => rfl, rfl⟩
  have hG1 := hG.1
  obtain ⟨L1, a1, a2, a3⟩ := h.wk
  obtain ⟨L2, b1, b2, b3⟩ := h.as
  obtain ⟨L3, c1, c2, c3⟩ := h.ad
  obtain ⟨f8, d8⟩ := h.ca
  obtain ⟨f10, d10⟩ := h.cu
  obtain ⟨f11, d11⟩ := h.ea
  obtain ⟨L4, g1, g2, g3⟩ := h.st
  obtain ⟨L5, i1, i2⟩ := h.li
  have key : ∀ c', c' < 3 → gi_ (si_ m x c v) x c' = gi_ m x c' := fun c' hc' => by rw [gi_si, if_neg (by omega)]
  refine ⟨h.k, h.x.xt e, (key 0 (by omega)).trans h.np, (key 1 (by omega)).trans h.day, (key 2 (by omega)).trans h.cl, ⟨L1, (a1.xt e (by omega) (by omega)).1, a2, fun w hw => ?_⟩, ⟨L2, (b1.xt e (by omega) (by omega)).1, b2, fun y hy => (b3 y hy).xt e (by omega)⟩, ⟨L3, (c1.xt e (by omega) (by omega)).1, c2, fun y hy => (c3 y hy).xt e (by omega)⟩, h.le.xt e (by omega), h.ba.xt e (by omega), ⟨f8, d8.xt e (by omega)⟩, h.tot.xt e (by omega) (fun p hp => by omega), ⟨f10, d10.xt e (by omega) (fun p hp => by omega)⟩, ⟨f11, d11.xt e (by omega) (fun p hp => by omega)⟩, ⟨L4, (g1.xt e (by omega) (by omega)).1, g2, g3⟩, ⟨L5, (i1.xt e (by omega) (by omega)).1, i2⟩⟩
  obtain ⟨y1, y2⟩ := hG.2 w (by omega)
  exact (a3 w hw).xt e (fun k hk => by omega) y1 y2
theorem SBv.kb (h : SBv m b l) : gk_ m b = (1, 13) ∧ b < gt_ m ∧ gr_ m b 0 < gt_ m ∧ (gk_ m (gr_ m b 0)).1 = 3 ∧ ge_ m = true := by
  obtain ⟨c, h1, h3, h4, h5, h6, h7, h8, h9, h10, h11, h12, h13⟩ := h
  exact ⟨h1, h11, h12, by rw [h5], h13⟩
/-- the builder's work spares the World -/
theorem WS.eb (h : WS m sv x ow s q) (hG : GLm s) (hna : cN s 2 ≤ 16) (hnd : cN s 3 ≤ 12) (hb : SBv m b l) (hK : KS sa m sv) (e : Ex (SBp m b) n z m m') : Xt m sv ow ow NoP (SBp m b) n z m' ∧ WS m' sv x ow s q := by
  obtain ⟨k1, k2, k3, k4, k5⟩ := hb.kb
  have X : Xt m sv ow ow NoP (SBp m b) n z m' := ⟨e, fun y _ e hw => by
    unfold Wd at hw
    rcases e with e | e
    · rw [e, k1] at hw
      simp at hw
    · have kne : ¬ gk_ m y = (1, 11) ∧ ¬ gk_ m y = (1, 12) ∧ ¬ gk_ m y = (1, 15) := by
        rw [← e] at k4
        refine ⟨fun z => ?_, fun z => ?_, fun z => ?_⟩ <;> rw [z] at k4 <;> exact absurd k4 (by show ¬ 1 = 3; decide)
      rw [← e] at k4
      rcases hw with hw | hw | hw | hw | hw | hw | hw
      · omega
      · omega
      · omega
      · omega
      · exact absurd hw kne.1
      · exact absurd hw kne.2.1
      · exact absurd hw kne.2.2, fun _ _ => rfl, e.r hK.1 (fun z => by
      rcases z with z | z
      · rw [← z, hK.2.1] at k1
        exact absurd (congrArg (fun q => q.1) k1) (by show ¬ 0 = 1; decide)
      · rw [← z, hK.2.1] at k4
        exact absurd k4 (by show ¬ 0 = 3; decide))⟩
  exact ⟨X, h.xt X (fun t y => absurd y id) (by have := hG.1; omega) hG.2 hna hnd⟩
theorem GS.kb (h : GS sa m sv x b t ow s q l) : gk_ m b = (1, 13) := h.sb.kb.1
theorem GS.text (h : GS sa m sv x b t ow s q l) (hK : KS sa m' sv) (hb : SBv m' b l') (e : Eb b n z m m') : GS sa m' sv x b t ow s q l' := by
  have hna := h.na
  have hnd := h.nd
  obtain ⟨k1, k2, k3, k4, k5⟩ := h.sb.kb
  obtain ⟨n1, n2, n3, n4, n5, n6⟩ := h.xn
  have np : ¬ SBp m b x := fun z => by
    rcases z with z | z
    · rw [z, k1] at n1
      exact absurd (congrArg (fun q => q.2) n1) (by show ¬ 13 = 12; decide)
    · rw [z] at n1
      rw [n1] at k4
      exact absurd k4 (by show ¬ 1 = 3; decide)
  have g := e.1.gt
  have rx := e.1.r n5 np
  have ix := e.1.i n5 np
  refine ⟨(h.ws.eb h.gl (by omega) (by omega) h.sb h.ks e.1).2, ⟨(e.1.k n5).trans n1, by rw [ix]; exact n2, by rw [rx, e.1.k n6]; exact n3, by rw [ix]; exact n4, by omega, by rw [rx]; omega⟩, hK, hb, h.gl, h.wg, h.sm, h.na, h.nd⟩
theorem GS.no (h : GS sa m sv x b t ow s q l) (e : Ex NoP n z m m') : GS sa m' sv x b t ow s q l := by
  have hna := h.na
  have hnd := h.nd
  have no : ∀ y, ¬ NoP y := fun _ y => y
  obtain ⟨n1, n2, n3, n4, n5, n6⟩ := h.xn
  have g := e.gt
  have rx := e.r n5 (no _)
  have ix := e.i n5 (no _)
  exact ⟨h.ws.xt (e.xt0 (ow := ow) h.ks.1) (fun t y => absurd y id) (by have := h.gl.1; omega) h.gl.2 (by omega) (by omega), ⟨(e.k n5).trans n1, by rw [ix]; exact n2, by rw [rx, e.k n6]; exact n3, by rw [ix]; exact n4, by omega, by rw [rx]; omega⟩, h.ks.ex e NoP.nk, h.sb.no e, h.gl, h.wg, h.sm, h.na, h.nd⟩
theorem GS.c (h : GS sa m sv x b t ow s q l) {i : Nat} (hi : i < 28) (h2 : l.length + (kb_ i).length ≤ 1000) : ∃ m', am_ca sa sv (d + 5) 221 [.ref b, .ref (gr_ m sv i)] m = some (.inl (some (.ref b)), m') ∧ GS sa m' sv x b t ow s q (l ++ kb_ i) ∧ Gx x b 1 2002 m m' := by
  obtain ⟨m1, e1, K1, b1, x1⟩ := st_c (sa := sa) (d := d) h.ks h.sb hi h2
  exact ⟨m1, e1, h.text K1 b1 x1, x1.gx⟩
theorem GS.n_ (h : GS sa m sv x b t ow s q l) {v : Nat} (hv : v < 10000) (h2 : l.length + 4 ≤ 1000) : ∃ m', am_ca sa sv (d + 5) 223 [.ref b, .int (nI v)] m = some (.inl (some (.ref b)), m') ∧ GS sa m' sv x b t ow s q (l ++ dg_ v) ∧ Gx x b 1 2002 m m' := by
  obtain ⟨m1, e1, K1, b1, x1⟩ := st_n (sa := sa) (d := d) h.ks h.sb hv (by have := (dg_len (n := v)).2; omega)
  exact ⟨m1, e1, h.text K1 b1 x1, x1.gx⟩
theorem GS.p_ (h : GS sa m sv x b t ow s q l) {p : Nat} (hp : p < 26) (h2 : l.length + 2 ≤ 1000) : ∃ m4 a m', am_ca sa sv (d + 7) 278 [.int (nI p)] m = some (.inl (some (.ref a)), m4) ∧ gk_ m4 b = (1, 13) ∧ am_ca sa sv (d + 7) 221 [.ref b, .ref a] m4 = some (.inl (some (.ref b)), m') ∧ GS sa m' sv x b t ow s q (l ++ nm_ 9 p) ∧ Gx x b 7 8002 m m' := by
  obtain ⟨m4, a, e1, K4, S4, x4, g1, g2, g3, k4⟩ := x278 (sa := sa) (d := d) h.ks h.sb.kb.2.2.2.2 hp
  obtain ⟨kb, m5, e5, K5, b5, x5⟩ := nm_app (sa := sa) (d := d + 2) h.sb K4 S4 x4 g1 g2 g3 (.inl rfl) h2
  exact ⟨m4, a, m5, e1, kb, e5, h.text K5 b5 x5, x5.gx⟩
theorem GS.w_ (h : GS sa m sv x b t ow s q l) {p : Nat} (hp : p < 26) (h2 : l.length + 2 ≤ 1000) : ∃ m4 a m', am_ca sa sv (d + 7) 279 [.int (nI p)] m = some (.inl (some (.ref a)), m4) ∧ gk_ m4 b = (1, 13) ∧ am_ca sa sv (d + 7) 221 [.ref b, .ref a] m4 = some (.inl (some (.ref b)), m') ∧ GS sa m' sv x b t ow s q (l ++ nm_ 10 p) ∧ Gx x b 7 8002 m m' := by
  obtain ⟨m4, a, e1, K4, S4, x4, g1, g2, g3, k4⟩ := x279 (sa := sa) (d := d) h.ks h.sb.kb.2.2.2.2 hp
  obtain ⟨kb, m5, e5, K5, b5, x5⟩ := nm_app (sa := sa) (d := d + 2) h.sb K4 S4 x4 g1 g2 g3 (.inr rfl) h2
  exact ⟨m4, a, m5, e1, kb, e5, h.text K5 b5 x5, x5.gx⟩
theorem GS.sx (h : GS sa m sv x b t ow s q l) {c : Nat} {v : Int32} (hc : c = 15) : GS sa (si_ m x c v) sv x b t ow s q l := by
  have hna := h.na
  have hnd := h.nd
  obtain ⟨n1, n2, n3, n4, n5, n6⟩ := h.xn
  refine ⟨h.ws.fld h.gl (by omega) (by omega) (by omega), ⟨n1, by rw [gi_si, if_neg (by omega)]; exact n2, n3, by rw [gi_si, if_neg (by omega)]; exact n4, n5, n6⟩, h.ks.six (by rw [n1]; exact ⟨by show ¬ 1 = 0; decide, by show ¬ 1 = 8; decide, by show ¬ 1 = 9; decide⟩), h.sb.six (fun z => ?_) (by rw [n1]; show ¬ 1 = 3; decide), h.gl, h.wg, h.sm, h.na, h.nd⟩
  have := h.kb
  rw [← z, n1] at this
  exact absurd (congrArg (fun q => q.2) this) (by show ¬ 12 = 13; decide)
theorem GS.next (h : GS sa m sv x b t ow s q l) (ht : t < 2 ^ 20) (h4 : 0 < n) (h5 : n < 2 ^ 31) : ∃ v m', v < n ∧ am_ca sa sv (d + 3) 276 [.ref x, .int (nI n)] m = some (.inl (some (.int (nI v))), m') ∧ GS sa m' sv x b (t + 1) ow s q l ∧ Gx x b 0 0 m m' := by
  have hna := h.na
  have hnd := h.nd
  obtain ⟨v, hv, e⟩ := x276 (sa := sa) (sv := sv) (d := d) h.xn ht h4 h5
  have n1 := h.xn.1
  refine ⟨v, _, hv, e, ⟨h.ws.fld h.gl (by omega) (by omega) (by omega), h.xn.up, h.ks.six (by rw [n1]; exact ⟨by show ¬ 1 = 0; decide, by show ¬ 1 = 8; decide, by show ¬ 1 = 9; decide⟩), h.sb.six (fun z => ?_) (by rw [n1]; show ¬ 1 = 3; decide), h.gl, h.wg, h.sm, h.na, h.nd⟩, Gx.six _ _ _⟩
  have := h.kb
  rw [← z, n1] at this
  exact absurd (congrArg (fun q => q.2) this) (by show ¬ 12 = 13; decide)
theorem GS.end_ (h : GS sa m sv x b t ow s q l) (h2 : l.length + 3 ≤ 1000) : ∃ i m', (i = 7 ∨ i = 8) ∧ am_ca sa sv (d + 6) 277 [.ref x, .ref b] m = some (.inl none, m') ∧ GS sa m' sv x b t ow s q (l ++ kb_ i) ∧ Gx x b 1 2002 m m' := by
  obtain ⟨i, v, m1, hi, e1, K1, b1, x1⟩ := x277 (sa := sa) (d := d) h.xn.1 h.ks h.sb h2
  have h1 := h.sx (c := 15) (v := v) rfl
  exact ⟨i, m1, hi, e1, h1.text K1 b1 x1, ((Gx.six m 15 v).trans x1.gx).mono (by omega) (by omega)⟩
end G8
