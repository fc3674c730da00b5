/-! constants get tags of their own -/
def Kc (k : Nat × Nat) : Prop := k.1 = 0 ∨ k.1 = 8 ∨ k.1 = 9
section W8
variable {sa sv d x a b t n z u o w : Nat} {m m1 : am_M} {ow ow' : Nat → Nat} {s s' : Nat → Int32} {q q' : Nat → Int64} {L : List Nat}
def RT2 (m : am_M) (ow ow' : Nat → Nat) : Prop := ∀ y, y < gt_ m → ow y < 300 → ¬ Kc (gk_ m y) → ow' y = ow y
theorem kc_n {k n : Nat} (h : ¬ k = 0 ∧ ¬ k = 8 ∧ ¬ k = 9) : ¬ Kc (k, n) := fun z => by
  rcases z with z | z | z
  · exact h.1 z
  · exact h.2.1 z
  · exact h.2.2 z
theorem Tg.r2 {k n : Nat} (h : Tg m ow a t) (hr : RT2 m ow ow') (ht : t < 300) (hk : gk_ m a = (k, n)) (h2 : ¬ k = 0 ∧ ¬ k = 8 ∧ ¬ k = 9) : Tg m ow' a t := ⟨(hr a h.2.1 (by rw [h.1]; exact ht) (by rw [hk]; exact kc_n h2)).trans h.1, h.2⟩
theorem RW.r2 {N : Nat} {f : Nat → Int32} (h : RW m ow a t N f) (hr : RT2 m ow ow') (ht : t < 300) : RW m ow' a t N f := ⟨h.1, h.2.1.r2 hr ht h.1 (by decide), h.2.2⟩
theorem QW.r2 {N : Nat} {f : Nat → Int64} (h : QW m ow a t N f) (hr : RT2 m ow ow') (ht : t < 300) : QW m ow' a t N f := ⟨h.1, h.2.1.r2 hr ht h.1 (by decide), h.2.2⟩
theorem GW.r2 {N : Nat} {f : Nat → Nat → Int64} (h : GW m ow a t u N f) (hr : RT2 m ow ow') (ht : t < 300) (hu : u < 280) : GW m ow' a t u N f := ⟨h.1, h.2.1.r2 hr ht h.1 (by decide), fun p hp => (h.2.2 p hp).r2 hr (by omega)⟩
theorem LW.r2 (h : LW m sv ow a t L) (hr : RT2 m ow ow') (ht : t < 299) : LW m sv ow' a t L := by
  obtain ⟨⟨c, hc⟩, h2, h3⟩ := h
  refine ⟨⟨c, hc⟩, h2.r2 hr (by omega) hc.1 (by decide), fun hk => ?_⟩
  have := h3 hk
  exact (hr _ hc.2.2.2.2.2.2.2.2.2.1 (by omega) (fun z => by unfold Kc at z; omega)).trans this
theorem WO.r2 (h : WO m sv ow o w s) (hr : RT2 m ow ow') (hw : w < 12) (hs1 : cN s (18 + 48 * w) < 3) (hs2 : cN s (59 + 48 * w) < 3) : WO m sv ow' o w s := by
  obtain ⟨h1, h2, ⟨L, a1, a2, a3⟩, ⟨L', b1, b2, b3⟩⟩ := h
  exact ⟨h1, h2.r2 hr (by omega) h1 (by decide), ⟨L, a1.r2 hr (by omega), a2, fun k hk => (a3 k hk).r2 hr (by omega)⟩, ⟨L', b1.r2 hr (by omega), b2, fun i hi => (b3 i hi).r2 hr (by omega)⟩⟩
theorem WS.r2 (h : WS m sv x ow s q) (hr : RT2 m ow ow') (hG : GLm s) (hna : cN s 2 ≤ 16) (hnd : cN s 3 ≤ 12) : WS m sv x ow' s q := by
  have hG1 := hG.1
  obtain ⟨L1, a1, a2, a3⟩ := h.wk
  obtain ⟨L2, b1, b2, b3⟩ := h.as
  obtain ⟨L3, c1, c2, c3⟩ := h.ad
  obtain ⟨f8, d8⟩ := h.ca
  obtain ⟨f10, d10⟩ := h.cu
  obtain ⟨f11, d11⟩ := h.ea
  obtain ⟨L4, g1, g2, g3⟩ := h.st
  obtain ⟨L5, i1, i2⟩ := h.li
  exact ⟨h.k, h.x.r2 hr (by omega) h.k (by decide), h.np, h.day, h.cl, ⟨L1, a1.r2 hr (by omega), a2, fun w hw => (a3 w hw).r2 hr (by omega) (hG.2 w (by omega)).1 (hG.2 w (by omega)).2⟩, ⟨L2, b1.r2 hr (by omega), b2, fun y hy => (b3 y hy).r2 hr (by omega)⟩, ⟨L3, c1.r2 hr (by omega), c2, fun y hy => (c3 y hy).r2 hr (by omega)⟩, h.le.r2 hr (by omega), h.ba.r2 hr (by omega), ⟨f8, d8.r2 hr (by omega)⟩, h.tot.r2 hr (by omega) (by omega), ⟨f10, d10.r2 hr (by omega) (by omega)⟩, ⟨f11, d11.r2 hr (by omega) (by omega)⟩, ⟨L4, g1.r2 hr (by omega), g2, g3⟩, ⟨L5, i1.r2 hr (by omega), i2⟩⟩
/-- such a tagging -/
theorem tag_k (h : WS m sv x ow s q) (hK : KS sa m sv) (hG : GLm s) (hna : cN s 2 ≤ 16) (hnd : cN s 3 ≤ 12) : ∃ O, WS m sv x O s q ∧ KT m sv O := by
  obtain ⟨O, hO⟩ : ∃ O : Nat → Nat, ∀ y, O y = if (gk_ m y).1 = 0 ∨ (gk_ m y).1 = 8 ∨ (gk_ m y).1 = 9 then 300 else ow y := ⟨_, fun _ => rfl⟩
  refine ⟨O, h.r2 (fun y _ _ hk => (hO y).trans (if_neg hk)) hG hna hnd, ?_, fun i hi => ?_, fun i hi => ?_⟩
  · rw [hO, if_pos (.inl (by rw [hK.2.1]))]; exact Nat.le_refl _
  · obtain ⟨a1, a2, a3, a4, a5, a6⟩ := hK.2.2.1 i hi
    rw [hO, hO, if_pos (.inr (.inl (by rw [a2]))), if_pos (.inr (.inr (by rw [a5])))]
    exact ⟨Nat.le_refl _, Nat.le_refl _⟩
  · obtain ⟨a1, a2, a3⟩ := hK.2.2.2.1 i hi
    rw [hO, if_pos (.inr (.inr (by rw [a2])))]
    exact Nat.le_refl _
end W8
