/-! the World's cells, each with a tag -/
def Tg (m : am_M) (ow : Nat → Nat) (a t : Nat) : Prop := ow a = t ∧ a < gt_ m ∧ ¬ a = 0
/-- kinds of cells that a World is made of -/
def Wd (k : Nat × Nat) : Prop := k.1 = 2 ∨ k.1 = 4 ∨ k.1 = 10 ∨ k.1 = 12 ∨ k = (1, 11) ∨ k = (1, 12) ∨ k = (1, 15)
/-- of such cells P takes only those with a tag in T -/
def FT (m : am_M) (ow : Nat → Nat) (T P : Nat → Prop) : Prop := ∀ a, a < gt_ m → P a → Wd (gk_ m a) → T (ow a)
def LW (m : am_M) (sv : Nat) (ow : Nat → Nat) (a t : Nat) (L : List Nat) : Prop := LV m sv a L ∧ Tg m ow a t ∧ ((gk_ m (gr_ m a 1)).1 = 10 → ow (gr_ m a 1) = t + 1)
def RW (m : am_M) (ow : Nat → Nat) (a t n : Nat) (f : Nat → Int32) : Prop := gk_ m a = (2, n) ∧ Tg m ow a t ∧ ∀ j, j < n → gi_ m a j = f j
def QW (m : am_M) (ow : Nat → Nat) (a t n : Nat) (f : Nat → Int64) : Prop := gk_ m a = (4, n) ∧ Tg m ow a t ∧ ∀ j, j < n → gl_ m a j = f j
def GW (m : am_M) (ow : Nat → Nat) (a t u n : Nat) (f : Nat → Nat → Int64) : Prop := gk_ m a = (12, 10) ∧ Tg m ow a t ∧ ∀ p, p < 10 → QW m ow (gr_ m a p) (u + p) n (f p)
/-- a work -/
def WO (m : am_M) (sv : Nat) (ow : Nat → Nat) (o w : Nat) (s : Nat → Int32) : Prop := gk_ m o = (1, 11) ∧ Tg m ow o (100 + 10 * w) ∧ (∃ L, LW m sv ow (gr_ m o 0) (101 + 10 * w) L ∧ L.length = cN s (18 + 48 * w) ∧ ∀ k, k < L.length → RW m ow (L.getD k 0) (105 + 10 * w + k) (2 * cN s (23 + 48 * w + k) + 1) (fun j => if j = 0 then s (19 + 48 * w + k) else if j % 2 = 1 then s (27 + 48 * w + 4 * k + j / 2) else s (43 + 48 * w + 4 * k + (j / 2 - 1)))) ∧ ∃ L, LW m sv ow (gr_ m o 1) (103 + 10 * w) L ∧ L.length = cN s (59 + 48 * w) ∧ ∀ i, i < L.length → RW m ow (L.getD i 0) (107 + 10 * w + i) 2 (fun j => s (60 + 48 * w + 3 * j + i))
def WS (m : am_M) (sv : Nat) (x : Nat) (ow : Nat → Nat) (s : Nat → Int32) (q : Nat → Int64) : Prop :=
  (gk_ m x = (1, 12)) ∧
  (Tg m ow x 0) ∧
  (gi_ m x 0 = s 0) ∧
  (gi_ m x 1 = s 4) ∧
  (gi_ m x 2 = s 5) ∧
  (∃ L, LW m sv ow (gr_ m x 3) 1 L ∧ L.length = cN s 1 ∧ ∀ w, w < L.length → WO m sv ow (L.getD w 0) w s) ∧
  (∃ L, LW m sv ow (gr_ m x 4) 3 L ∧ L.length = cN s 2 ∧ ∀ a, a < L.length → RW m ow (L.getD a 0) (60 + a) 6 (fun c => s (594 + 6 * a + c))) ∧
  (∃ L, LW m sv ow (gr_ m x 5) 5 L ∧ L.length = cN s 3 ∧ ∀ a, a < L.length → RW m ow (L.getD a 0) (80 + a) 6 (fun c => s (690 + 6 * a + c))) ∧
  (RW m ow (gr_ m x 6) 9 10 (fun p => s (8 + p))) ∧
  (QW m ow (gr_ m x 7) 10 10 q) ∧
  (∃ f, QW m ow (gr_ m x 8) 11 12 f) ∧
  (GW m ow (gr_ m x 9) 12 20 4 (fun p c => q (10 + 4 * p + c))) ∧
  (∃ f, GW m ow (gr_ m x 10) 13 30 3 f) ∧
  (∃ f, GW m ow (gr_ m x 11) 14 40 12 f) ∧
  (∃ L, LW m sv ow (gr_ m x 12) 7 L ∧ L.length = cN s 7 ∧ ∀ y, y ∈ L → (gk_ m y).1 = 12) ∧
  (∃ L, LW m sv ow (gr_ m x 13) 17 L ∧ L.length = cN s 6)
theorem WS.k {m : am_M} {sv : Nat} {x : Nat} {ow : Nat → Nat} {s : Nat → Int32} {q : Nat → Int64} (h : WS m sv x ow s q) : gk_ m x = (1, 12) := h.1
theorem WS.x {m : am_M} {sv : Nat} {x : Nat} {ow : Nat → Nat} {s : Nat → Int32} {q : Nat → Int64} (h : WS m sv x ow s q) : Tg m ow x 0 := h.2.1
theorem WS.np {m : am_M} {sv : Nat} {x : Nat} {ow : Nat → Nat} {s : Nat → Int32} {q : Nat → Int64} (h : WS m sv x ow s q) : gi_ m x 0 = s 0 := h.2.2.1
theorem WS.day {m : am_M} {sv : Nat} {x : Nat} {ow : Nat → Nat} {s : Nat → Int32} {q : Nat → Int64} (h : WS m sv x ow s q) : gi_ m x 1 = s 4 := h.2.2.2.1
theorem WS.cl {m : am_M} {sv : Nat} {x : Nat} {ow : Nat → Nat} {s : Nat → Int32} {q : Nat → Int64} (h : WS m sv x ow s q) : gi_ m x 2 = s 5 := h.2.2.2.2.1
theorem WS.wk {m : am_M} {sv : Nat} {x : Nat} {ow : Nat → Nat} {s : Nat → Int32} {q : Nat → Int64} (h : WS m sv x ow s q) : ∃ L, LW m sv ow (gr_ m x 3) 1 L ∧ L.length = cN s 1 ∧ ∀ w, w < L.length → WO m sv ow (L.getD w 0) w s := h.2.2.2.2.2.1
theorem WS.as {m : am_M} {sv : Nat} {x : Nat} {ow : Nat → Nat} {s : Nat → Int32} {q : Nat → Int64} (h : WS m sv x ow s q) : ∃ L, LW m sv ow (gr_ m x 4) 3 L ∧ L.length = cN s 2 ∧ ∀ a, a < L.length → RW m ow (L.getD a 0) (60 + a) 6 (fun c => s (594 + 6 * a + c)) := h.2.2.2.2.2.2.1
theorem WS.ad {m : am_M} {sv : Nat} {x : Nat} {ow : Nat → Nat} {s : Nat → Int32} {q : Nat → Int64} (h : WS m sv x ow s q) : ∃ L, LW m sv ow (gr_ m x 5) 5 L ∧ L.length = cN s 3 ∧ ∀ a, a < L.length → RW m ow (L.getD a 0) (80 + a) 6 (fun c => s (690 + 6 * a + c)) := h.2.2.2.2.2.2.2.1
theorem WS.le {m : am_M} {sv : Nat} {x : Nat} {ow : Nat → Nat} {s : Nat → Int32} {q : Nat → Int64} (h : WS m sv x ow s q) : RW m ow (gr_ m x 6) 9 10 (fun p => s (8 + p)) := h.2.2.2.2.2.2.2.2.1
theorem WS.ba {m : am_M} {sv : Nat} {x : Nat} {ow : Nat → Nat} {s : Nat → Int32} {q : Nat → Int64} (h : WS m sv x ow s q) : QW m ow (gr_ m x 7) 10 10 q := h.2.2.2.2.2.2.2.2.2.1
theorem WS.ca {m : am_M} {sv : Nat} {x : Nat} {ow : Nat → Nat} {s : Nat → Int32} {q : Nat → Int64} (h : WS m sv x ow s q) : ∃ f, QW m ow (gr_ m x 8) 11 12 f := h.2.2.2.2.2.2.2.2.2.2.1
theorem WS.tot {m : am_M} {sv : Nat} {x : Nat} {ow : Nat → Nat} {s : Nat → Int32} {q : Nat → Int64} (h : WS m sv x ow s q) : GW m ow (gr_ m x 9) 12 20 4 (fun p c => q (10 + 4 * p + c)) := h.2.2.2.2.2.2.2.2.2.2.2.1
theorem WS.cu {m : am_M} {sv : Nat} {x : Nat} {ow : Nat → Nat} {s : Nat → Int32} {q : Nat → Int64} (h : WS m sv x ow s q) : ∃ f, GW m ow (gr_ m x 10) 13 30 3 f := h.2.2.2.2.2.2.2.2.2.2.2.2.1
theorem WS.ea {m : am_M} {sv : Nat} {x : Nat} {ow : Nat → Nat} {s : Nat → Int32} {q : Nat → Int64} (h : WS m sv x ow s q) : ∃ f, GW m ow (gr_ m x 11) 14 40 12 f := h.2.2.2.2.2.2.2.2.2.2.2.2.2.1
theorem WS.st {m : am_M} {sv : Nat} {x : Nat} {ow : Nat → Nat} {s : Nat → Int32} {q : Nat → Int64} (h : WS m sv x ow s q) : ∃ L, LW m sv ow (gr_ m x 12) 7 L ∧ L.length = cN s 7 ∧ ∀ y, y ∈ L → (gk_ m y).1 = 12 := h.2.2.2.2.2.2.2.2.2.2.2.2.2.2.1
theorem WS.li {m : am_M} {sv : Nat} {x : Nat} {ow : Nat → Nat} {s : Nat → Int32} {q : Nat → Int64} (h : WS m sv x ow s q) : ∃ L, LW m sv ow (gr_ m x 13) 17 L ∧ L.length = cN s 6 := h.2.2.2.2.2.2.2.2.2.2.2.2.2.2.2
section W8
variable {sv x a t n z u : Nat} {m m1 : am_M} {ow ow' : Nat → Nat} {T P : Nat → Prop} {L : List Nat} {s : Nat → Int32} {q : Nat → Int64}
/-- a run whose changes keep to tags in T -/
def Xt (m : am_M) (sv : Nat) (ow ow' : Nat → Nat) (T P : Nat → Prop) (n z : Nat) (m1 : am_M) : Prop := Ex P n z m m1 ∧ FT m ow T P ∧ (∀ b, b < gt_ m → ow' b = ow b) ∧ gr_ m1 sv = gr_ m sv
theorem Tg.xt (h : Tg m ow a t) (e : Xt m sv ow ow' T P n z m1) : Tg m1 ow' a t := ⟨(e.2.2.1 a h.2.1).trans h.1, Nat.lt_of_lt_of_le h.2.1 e.1.gt, h.2.2⟩
theorem Xt.no (e : Xt m sv ow ow' T P n z m1) (ha : a < gt_ m) (hw : Wd (gk_ m a)) (hT : ¬ T (ow a)) : ¬ P a := fun y => hT (e.2.1 a ha y hw)
theorem RW.xt {f : Nat → Int32} (h : RW m ow a t n f) {n' : Nat} (e : Xt m sv ow ow' T P n' z m1) (hT : ¬ T t) : RW m1 ow' a t n f := by
  obtain ⟨h1, h2, h3⟩ := h
  have np : ¬ P a := e.no h2.2.1 (.inl (by rw [h1])) (by rw [h2.1]; exact hT)
  exact ⟨(e.1.k h2.2.1).trans h1, h2.xt e, fun j hj => by rw [e.1.i h2.2.1 np]; exact h3 j hj⟩
theorem QW.xt {f : Nat → Int64} (h : QW m ow a t n f) {n' : Nat} (e : Xt m sv ow ow' T P n' z m1) (hT : ¬ T t) : QW m1 ow' a t n f := by
  obtain ⟨h1, h2, h3⟩ := h
  have np : ¬ P a := e.no h2.2.1 (.inr (.inl (by rw [h1]))) (by rw [h2.1]; exact hT)
  exact ⟨(e.1.k h2.2.1).trans h1, h2.xt e, fun j hj => by rw [e.1.l h2.2.1 np]; exact h3 j hj⟩
theorem GW.xt {f : Nat → Nat → Int64} (h : GW m ow a t u n f) {n' : Nat} (e : Xt m sv ow ow' T P n' z m1) (hT : ¬ T t) (hU : ∀ p, p < 10 → ¬ T (u + p)) : GW m1 ow' a t u n f := by
  obtain ⟨h1, h2, h3⟩ := h
  have np : ¬ P a := e.no h2.2.1 (.inr (.inr (.inr (.inl (by rw [h1]))))) (by rw [h2.1]; exact hT)
  exact ⟨(e.1.k h2.2.1).trans h1, h2.xt e, fun p hp => by rw [e.1.r h2.2.1 np]; exact (h3 p hp).xt e (hU p hp)⟩
theorem LW.xt (h : LW m sv ow a t L) (e : Xt m sv ow ow' T P n z m1) (hT : ¬ T t) (hU : ¬ T (t + 1)) : LW m1 sv ow' a t L ∧ gr_ m1 a = gr_ m a := by
  obtain ⟨⟨c, h1, h3, h4, h5, h6, h7, h8, h9, h10, h11, h12⟩, h2, h13⟩ := h
  have np : ¬ P a := e.no h10 (.inr (.inr (.inr (.inr (.inr (.inr h1)))))) (by rw [h2.1]; exact hT)
  have g := e.1.gt
  have ra : gr_ m1 a = gr_ m a := e.1.r h10 np
  have ka : gk_ m1 (gr_ m a 1) = gk_ m (gr_ m a 1) := e.1.k h11
  refine ⟨⟨⟨c, (e.1.k h10).trans h1, by rw [e.1.i h10 np]; exact h3, by rw [e.1.i h10 np]; exact h4, ?_, h6, h7, fun j hj => ?_, fun y hy => ⟨el_cg (h9 y hy).1 (e.1.k (h9 y hy).2), Nat.lt_of_lt_of_le (h9 y hy).2 g⟩, by omega, by rw [ra]; omega, (e.1.ge).trans h12⟩, h2.xt e, ?_⟩, ra⟩
  · rw [ra, ka, e.2.2.2]
    exact h5
  · have k10 : gk_ m (gr_ m a 1) = (10, c) := by
      rcases h5 with y | y
      · omega
      · exact y.1
    have nq : ¬ P (gr_ m a 1) := e.no h11 (.inr (.inr (.inl (by rw [k10])))) (by rw [h13 (by rw [k10])]; exact hU)
    rw [ra, e.1.r h11 nq]
    exact h8 j hj
  · rw [ra, ka, e.2.2.1 _ h11]
    exact h13
theorem WO.xt {o w : Nat} (h : WO m sv ow o w s) (e : Xt m sv ow ow' T P n z m1) (hT : ∀ k, k < 10 → ¬ T (100 + 10 * w + k)) (hs1 : cN s (18 + 48 * w) < 3) (hs2 : cN s (59 + 48 * w) < 3) : WO m1 sv ow' o w s := by
  obtain ⟨h1, h2, ⟨L, a1, a2, a3⟩, ⟨L', b1, b2, b3⟩⟩ := h
  have np : ¬ P o := e.no h2.2.1 (.inr (.inr (.inr (.inr (.inl h1))))) (by rw [h2.1]; exact hT 0 (by omega))
  have ro : gr_ m1 o = gr_ m o := e.1.r h2.2.1 np
  have t1 : ∀ t k, t = 100 + 10 * w + k → k < 10 → ¬ T t := fun t k e hk => by rw [e]; exact hT k hk
  refine ⟨(e.1.k h2.2.1).trans h1, h2.xt e, ⟨L, ?_, a2, fun k hk => (a3 k hk).xt e (t1 _ (5 + k) (by omega) (by omega))⟩, ⟨L', ?_, b2, fun i hi => (b3 i hi).xt e (t1 _ (7 + i) (by omega) (by omega))⟩⟩
  · rw [ro]
    exact (a1.xt e (t1 _ 1 (by omega) (by omega)) (t1 _ 2 (by omega) (by omega))).1
  · rw [ro]
    exact (b1.xt e (t1 _ 3 (by omega) (by omega)) (t1 _ 4 (by omega) (by omega))).1
theorem LW.lt (h : LW m sv ow a t L) {y : Nat} (hy : y ∈ L) : y < gt_ m := by
  obtain ⟨⟨c, hc⟩, _⟩ := h
  exact (hc.2.2.2.2.2.2.2.1 y hy).2
/-- a run that spares the World -/
theorem WS.xt (h : WS m sv x ow s q) (e : Xt m sv ow ow' T P n z m1) (hT : ∀ t, T t → 300 ≤ t) (hw : cN s 1 ≤ 12) (hs : ∀ w, w < cN s 1 → cN s (18 + 48 * w) < 3 ∧ cN s (59 + 48 * w) < 3) (ha : cN s 2 ≤ 16) (hd : cN s 3 ≤ 12) : WS m1 sv x ow' s q := by
  have nT : ∀ t, t < 300 → ¬ T t := fun t h1 h2 => by have := hT t h2; omega
  have np : ¬ P x := e.no h.x.2.1 (.inr (.inr (.inr (.inr (.inr (.inl h.k)))))) (by rw [h.x.1]; exact nT 0 (by omega))
  have rx : gr_ m1 x = gr_ m x := e.1.r h.x.2.1 np
  have ix : gi_ m1 x = gi_ m x := e.1.i h.x.2.1 np
  obtain ⟨L1, a1, a2, a3⟩ := h.wk
  obtain ⟨L2, b1, b2, b3⟩ := h.as
  obtain ⟨L3, c1, c2, c3⟩ := h.ad
  obtain ⟨f8, d8⟩ := h.ca
  obtain ⟨f10, d10⟩ := h.cu
  obtain ⟨f11, d11⟩ := h.ea
  obtain ⟨L4, g1, g2, g3⟩ := h.st
  obtain ⟨L5, i1, i2⟩ := h.li
  refine ⟨(e.1.k h.x.2.1).trans h.k, h.x.xt e, by rw [ix]; exact h.np, by rw [ix]; exact h.day, by rw [ix]; exact h.cl, ⟨L1, ?_, a2, fun w hw' => (a3 w hw').xt e (fun k hk => nT _ (by omega)) (hs w (by omega)).1 (hs w (by omega)).2⟩, ⟨L2, ?_, b2, fun a ha' => (b3 a ha').xt e (nT _ (by omega))⟩, ⟨L3, ?_, c2, fun a ha' => (c3 a ha').xt e (nT _ (by omega))⟩, ?_, ?_, ⟨f8, ?_⟩, ?_, ⟨f10, ?_⟩, ⟨f11, ?_⟩, ⟨L4, ?_, g2, fun y hy => by rw [e.1.k (g1.lt hy)]; exact g3 y hy⟩, ⟨L5, ?_, i2⟩⟩
  all_goals rw [rx]
  · exact (a1.xt e (nT _ (by omega)) (nT _ (by omega))).1
  · exact (b1.xt e (nT _ (by omega)) (nT _ (by omega))).1
  · exact (c1.xt e (nT _ (by omega)) (nT _ (by omega))).1
  · exact h.le.xt e (nT _ (by omega))
  · exact h.ba.xt e (nT _ (by omega))
  · exact d8.xt e (nT _ (by omega))
  · exact h.tot.xt e (nT _ (by omega)) (fun p hp => nT _ (by omega))
  · exact d10.xt e (nT _ (by omega)) (fun p hp => nT _ (by omega))
  · exact d11.xt e (nT _ (by omega)) (fun p hp => nT _ (by omega))
  · exact (g1.xt e (nT _ (by omega)) (nT _ (by omega))).1
  · exact (i1.xt e (nT _ (by omega)) (nT _ (by omega))).1
end W8
